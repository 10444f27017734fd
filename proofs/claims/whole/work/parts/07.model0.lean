/-! StepsBeyondModel.in(III)Z -/
def f_M_in (p0 : Int32) (p1 : Int32) (p2 : Int32) (σ : zS) : Option (Int32 × zS) :=
  (if p0 < p1 then
  some (0, σ)
  else
  (if p2 < p0 then
  some (0, σ)
  else
  some (1, σ)))
set_option maxRecDepth 4000 in
theorem m_M_in {l : Launch} {d : zD} {h : Nat → Nat} {out : Int32 × zS} {σ : zS} {p0 : Int32} {p1 : Int32} {p2 : Int32} (hf : f_M_in p0 p1 p2 σ = some out) : zM l yX11_in cX11_in 3 (some .boolean) 0 0 d [.int p0, .int p1, .int p2] (MW d h σ) (MW d h out.2) (some (.int out.1)) := by
  refine zM_of [some (.int p0), some (.int p1), some (.int p2)] (by decide +kernel) rfl (Nat.le_of_ble_eq_true rfl) (fun F C T => ?_)
  unfold f_M_in at hf
  refine zr_iload_n 0 1 C (by decide +kernel) rfl rfl ?_
  refine zr_iload_n 1 2 C (by decide +kernel) rfl rfl ?_
  refine zr_icmp_lt (off := 12) 14 5 C (by decide +kernel) (by decide) rfl hf (fun hf => ?_) (fun hf => ?_)
  · refine zr_iconst (v := 0) 0 15 C (by decide +kernel) rfl rfl ?_
    obtain rfl := Option.some.inj hf
    exact zr_zret C (by decide +kernel) rfl T
  · refine zr_iload_n 0 6 C (by decide +kernel) rfl rfl ?_
    refine zr_iload_n 2 7 C (by decide +kernel) rfl rfl ?_
    refine zr_icmp_gt (off := 7) 14 10 C (by decide +kernel) (by decide) rfl hf (fun hf => ?_) (fun hf => ?_)
    · refine zr_iconst (v := 0) 0 15 C (by decide +kernel) rfl rfl ?_
      obtain rfl := Option.some.inj hf
      exact zr_zret C (by decide +kernel) rfl T
    · refine zr_iconst (v := 1) 1 11 C (by decide +kernel) rfl rfl ?_
      refine zr_goto (off := 4) 15 C (by decide +kernel) (by decide) ?_
      obtain rfl := Option.some.inj hf
      exact zr_zret C (by decide +kernel) rfl T
theorem y_M_in : zY yX11_in cX11_in 3 (some .boolean) 3 := ⟨q_1183, q_90, by decide +kernel, by decide +kernel, by decide +kernel⟩
theorem k_M_in {l : Launch} {d : zD} {F : zF} {h : Nat → Nat} {σ : zS} {lv : List (Option Value)} {pc : Nat} {own : String} {cc : ByteArray} {nL fr lo idx : Nat} {rest : List Value} {β : Type} {kf : Int32 → zS → Option β} {o2 : β}  {p0 : Int32} {p1 : Int32} {p2 : Int32} (pc' : Nat) (C : zOk d F own cc nL fr lo) (hd : decode cc pc = .ok (.invokestatic idx, 3)) (hp : pc + 3 = pc') (hq : Cond.methodLink own idx yX11_in ∈ zW) (hm : 0 + 1 ≤ fr ∧ 8 + (3 + 11) + 0 ≤ lo) (hr : (rest.map fun v => v.category).sum ≤ 8) (hf : zbd (f_M_in p0 p1 p2 σ) kf = some o2) (K : ∀ (r : Int32) (σ' : zS), kf r σ' = some o2 → V l d F 0 0 (MW d h σ') lv pc' (.int r :: rest)) : V l d F 0 0 (MW d h σ) lv pc (.int p2 :: .int p1 :: .int p0 :: rest) := by
  obtain ⟨q, h1, h2⟩ := zbd_some hf
  exact zr_callS y_M_in q_1182 (As := [.int p0, .int p1, .int p2]) (m_M_in h1) rfl rfl pc' C hd hp hq hm hr (K _ _ h2)
/-! StepsBeyondModel.isPlace(I)Z -/
def f_M_isPlace (p0 : Int32) (σ : zS) : Option (Int32 × zS) :=
  zbd (f_M_in p0 0 1599 σ) fun r2 σ1 =>
  zbo r2 (some (r2, σ1))
set_option maxRecDepth 4000 in
theorem m_M_isPlace {l : Launch} {d : zD} {h : Nat → Nat} {out : Int32 × zS} {σ : zS} {p0 : Int32} (hf : f_M_isPlace p0 σ = some out) : zM l yX11_isPlace cX11_isPlace 1 (some .boolean) 1 22 d [.int p0] (MW d h σ) (MW d h out.2) (some (.int out.1)) := by
  refine zM_of [some (.int p0)] (by decide +kernel) rfl (Nat.le_of_ble_eq_true rfl) (fun F C T => ?_)
  unfold f_M_isPlace at hf
  refine zr_iload_n 0 1 C (by decide +kernel) rfl rfl ?_
  refine zr_iconst (v := 0) 0 2 C (by decide +kernel) rfl rfl ?_
  refine zr_sipush (v := 1599) 1599 5 C (by decide +kernel) rfl rfl ?_
  refine k_M_in (idx := 139) 8 C (by decide +kernel) rfl q_1181 (zb2 rfl rfl) (Nat.le_of_ble_eq_true rfl) hf (fun r2 σ1 hf => ?_)
  obtain ⟨hz, hf⟩ := zbo_some hf
  obtain rfl := Option.some.inj hf
  exact zr_zret C (by decide +kernel) hz T
theorem y_M_isPlace : zY yX11_isPlace cX11_isPlace 1 (some .boolean) 1 := ⟨q_1180, q_90, by decide +kernel, by decide +kernel, by decide +kernel⟩
theorem k_M_isPlace {l : Launch} {d : zD} {F : zF} {h : Nat → Nat} {σ : zS} {lv : List (Option Value)} {pc : Nat} {own : String} {cc : ByteArray} {nL fr lo idx : Nat} {rest : List Value} {β : Type} {kf : Int32 → zS → Option β} {o2 : β}  {p0 : Int32} (pc' : Nat) (C : zOk d F own cc nL fr lo) (hd : decode cc pc = .ok (.invokestatic idx, 3)) (hp : pc + 3 = pc') (hq : Cond.methodLink own idx yX11_isPlace ∈ zW) (hm : 1 + 1 ≤ fr ∧ 8 + (1 + 11) + 22 ≤ lo) (hr : (rest.map fun v => v.category).sum ≤ 8) (hf : zbd (f_M_isPlace p0 σ) kf = some o2) (K : ∀ (r : Int32) (σ' : zS), kf r σ' = some o2 → V l d F 0 0 (MW d h σ') lv pc' (.int r :: rest)) : V l d F 0 0 (MW d h σ) lv pc (.int p0 :: rest) := by
  obtain ⟨q, h1, h2⟩ := zbd_some hf
  exact zr_callS y_M_isPlace q_1179 (As := [.int p0]) (m_M_isPlace h1) rfl rfl pc' C hd hp hq hm hr (K _ _ h2)
/-! StepsBeyondModel.isHouse(I)Z -/
def f_M_isHouse (p1 : Int32) (σ : zS) : Option (Int32 × zS) :=
  zbd (f_M_in p1 0 ((σ.1 0) - 1) σ) fun r2 σ1 =>
  zbo r2 (some (r2, σ1))
set_option maxRecDepth 4000 in
theorem m_M_isHouse {l : Launch} {d : zD} {h : Nat → Nat} {out : Int32 × zS} {σ : zS} {p1 : Int32} (hf : f_M_isHouse p1 σ = some out) : zM l yX11_isHouse cX11_isHouse 2 (some .boolean) 1 22 d [.ref (h 0), .int p1] (MW d h σ) (MW d h out.2) (some (.int out.1)) := by
  refine zM_of [some (.ref (h 0)), some (.int p1)] (by decide +kernel) rfl (Nat.le_of_ble_eq_true rfl) (fun F C T => ?_)
  unfold f_M_isHouse at hf
  refine zr_iload_n 1 1 C (by decide +kernel) rfl rfl ?_
  refine zr_iconst (v := 0) 0 2 C (by decide +kernel) rfl rfl ?_
  refine zr_aload_n 0 3 C (by decide +kernel) rfl rfl ?_
  refine mg_0_0 (idx := 143) 6 C (by decide +kernel) rfl q_991 ?_
  refine zr_iconst (v := 1) 1 7 C (by decide +kernel) rfl rfl ?_
  refine zr_isub 8 C (by decide +kernel) rfl ?_
  refine k_M_in (idx := 139) 11 C (by decide +kernel) rfl q_1181 (zb2 rfl rfl) (Nat.le_of_ble_eq_true rfl) hf (fun r2 σ1 hf => ?_)
  obtain ⟨hz, hf⟩ := zbo_some hf
  obtain rfl := Option.some.inj hf
  exact zr_zret C (by decide +kernel) hz T
theorem y_M_isHouse : zY yX11_isHouse cX11_isHouse 2 (some .boolean) 1 := ⟨q_1191, q_90, by decide +kernel, by decide +kernel, by decide +kernel⟩
theorem k_M_isHouse {l : Launch} {d : zD} {F : zF} {h : Nat → Nat} {σ : zS} {lv : List (Option Value)} {pc : Nat} {own : String} {cc : ByteArray} {nL fr lo idx : Nat} {rest : List Value} {β : Type} {kf : Int32 → zS → Option β} {o2 : β}  {p1 : Int32} (pc' : Nat) (C : zOk d F own cc nL fr lo) (hd : decode cc pc = .ok (.invokevirtual idx, 3)) (hp : pc + 3 = pc') (hq : Cond.methodLink own idx yX11_isHouse ∈ zW) (hm : 1 + 1 ≤ fr ∧ 8 + (2 + 11) + 22 ≤ lo) (hr : (rest.map fun v => v.category).sum ≤ 8) (hf : zbd (f_M_isHouse p1 σ) kf = some o2) (K : ∀ (r : Int32) (σ' : zS), kf r σ' = some o2 → V l d F 0 0 (MW d h σ') lv pc' (.int r :: rest)) : V l d F 0 0 (MW d h σ) lv pc (.int p1 :: .ref (h 0) :: rest) := by
  obtain ⟨q, h1, h2⟩ := zbd_some hf
  exact zr_callV y_M_isHouse ⟨q_1190, q_37⟩ 0 rfl rfl (As := [.int p1]) (m_M_isHouse h1) rfl rfl pc' C hd hp hq hm hr (K _ _ h2)
/-! StepsBeyondModel.abs(I)I -/
def f_M_abs (p0 : Int32) (σ : zS) : Option (Int32 × zS) :=
  (if 0 ≤ p0 then
  some (p0, σ)
  else
  some (-p0, σ))
set_option maxRecDepth 4000 in
theorem m_M_abs {l : Launch} {d : zD} {h : Nat → Nat} {out : Int32 × zS} {σ : zS} {p0 : Int32} (hf : f_M_abs p0 σ = some out) : zM l yX11_abs cX11_abs 1 (some .int) 0 0 d [.int p0] (MW d h σ) (MW d h out.2) (some (.int out.1)) := by
  refine zM_of [some (.int p0)] (by decide +kernel) rfl (Nat.le_of_ble_eq_true rfl) (fun F C T => ?_)
  unfold f_M_abs at hf
  refine zr_iload_n 0 1 C (by decide +kernel) rfl rfl ?_
  refine zr_if_ge (off := 8) 9 4 C (by decide +kernel) (by decide) rfl hf (fun hf => ?_) (fun hf => ?_)
  · refine zr_iload_n 0 10 C (by decide +kernel) rfl rfl ?_
    obtain rfl := Option.some.inj hf
    exact zr_iret C (by decide +kernel) T
  · refine zr_iload_n 0 5 C (by decide +kernel) rfl rfl ?_
    refine zr_ineg 6 C (by decide +kernel) rfl ?_
    refine zr_goto (off := 4) 10 C (by decide +kernel) (by decide) ?_
    obtain rfl := Option.some.inj hf
    exact zr_iret C (by decide +kernel) T
theorem y_M_abs : zY yX11_abs cX11_abs 1 (some .int) 1 := ⟨q_1262, q_90, by decide +kernel, by decide +kernel, by decide +kernel⟩
theorem k_M_abs {l : Launch} {d : zD} {F : zF} {h : Nat → Nat} {σ : zS} {lv : List (Option Value)} {pc : Nat} {own : String} {cc : ByteArray} {nL fr lo idx : Nat} {rest : List Value} {β : Type} {kf : Int32 → zS → Option β} {o2 : β}  {p0 : Int32} (pc' : Nat) (C : zOk d F own cc nL fr lo) (hd : decode cc pc = .ok (.invokestatic idx, 3)) (hp : pc + 3 = pc') (hq : Cond.methodLink own idx yX11_abs ∈ zW) (hm : 0 + 1 ≤ fr ∧ 8 + (1 + 11) + 0 ≤ lo) (hr : (rest.map fun v => v.category).sum ≤ 8) (hf : zbd (f_M_abs p0 σ) kf = some o2) (K : ∀ (r : Int32) (σ' : zS), kf r σ' = some o2 → V l d F 0 0 (MW d h σ') lv pc' (.int r :: rest)) : V l d F 0 0 (MW d h σ) lv pc (.int p0 :: rest) := by
  obtain ⟨q, h1, h2⟩ := zbd_some hf
  exact zr_callS y_M_abs q_1261 (As := [.int p0]) (m_M_abs h1) rfl rfl pc' C hd hp hq hm hr (K _ _ h2)
/-! StepsBeyondModel.apart(II)I -/
def f_M_apart (p0 : Int32) (p1 : Int32) (σ : zS) : Option (Int32 × zS) :=
  zbd (f_M_abs ((zrem p0 40) - (zrem p1 40)) σ) fun r2 σ1 =>
  zbd (f_M_abs ((p0 / 40) - (p1 / 40)) σ1) fun r4 σ3 =>
  some (r2 + r4, σ3)
set_option maxRecDepth 4000 in
theorem m_M_apart {l : Launch} {d : zD} {h : Nat → Nat} {out : Int32 × zS} {σ : zS} {p0 : Int32} {p1 : Int32} (hf : f_M_apart p0 p1 σ = some out) : zM l yX11_apart cX11_apart 2 (some .int) 1 20 d [.int p0, .int p1] (MW d h σ) (MW d h out.2) (some (.int out.1)) := by
  refine zM_of [some (.int p0), some (.int p1)] (by decide +kernel) rfl (Nat.le_of_ble_eq_true rfl) (fun F C T => ?_)
  unfold f_M_apart at hf
  refine zr_iload_n 0 1 C (by decide +kernel) rfl rfl ?_
  refine zr_bipush (v := 40) 40 3 C (by decide +kernel) rfl rfl ?_
  refine zr_irem 4 C (by decide +kernel) rfl (by decide) ?_
  refine zr_iload_n 1 5 C (by decide +kernel) rfl rfl ?_
  refine zr_bipush (v := 40) 40 7 C (by decide +kernel) rfl rfl ?_
  refine zr_irem 8 C (by decide +kernel) rfl (by decide) ?_
  refine zr_isub 9 C (by decide +kernel) rfl ?_
  refine k_M_abs (idx := 146) 12 C (by decide +kernel) rfl q_1260 (zb2 rfl rfl) (Nat.le_of_ble_eq_true rfl) hf (fun r2 σ1 hf => ?_)
  refine zr_iload_n 0 13 C (by decide +kernel) rfl rfl ?_
  refine zr_bipush (v := 40) 40 15 C (by decide +kernel) rfl rfl ?_
  refine zr_idiv 16 C (by decide +kernel) rfl (by decide) ?_
  refine zr_iload_n 1 17 C (by decide +kernel) rfl rfl ?_
  refine zr_bipush (v := 40) 40 19 C (by decide +kernel) rfl rfl ?_
  refine zr_idiv 20 C (by decide +kernel) rfl (by decide) ?_
  refine zr_isub 21 C (by decide +kernel) rfl ?_
  refine k_M_abs (idx := 146) 24 C (by decide +kernel) rfl q_1260 (zb2 rfl rfl) (Nat.le_of_ble_eq_true rfl) hf (fun r4 σ3 hf => ?_)
  refine zr_iadd 25 C (by decide +kernel) rfl ?_
  obtain rfl := Option.some.inj hf
  exact zr_iret C (by decide +kernel) T
theorem y_M_apart : zY yX11_apart cX11_apart 2 (some .int) 2 := ⟨q_1259, q_90, by decide +kernel, by decide +kernel, by decide +kernel⟩
theorem k_M_apart {l : Launch} {d : zD} {F : zF} {h : Nat → Nat} {σ : zS} {lv : List (Option Value)} {pc : Nat} {own : String} {cc : ByteArray} {nL fr lo idx : Nat} {rest : List Value} {β : Type} {kf : Int32 → zS → Option β} {o2 : β}  {p0 : Int32} {p1 : Int32} (pc' : Nat) (C : zOk d F own cc nL fr lo) (hd : decode cc pc = .ok (.invokestatic idx, 3)) (hp : pc + 3 = pc') (hq : Cond.methodLink own idx yX11_apart ∈ zW) (hm : 1 + 1 ≤ fr ∧ 8 + (2 + 11) + 20 ≤ lo) (hr : (rest.map fun v => v.category).sum ≤ 8) (hf : zbd (f_M_apart p0 p1 σ) kf = some o2) (K : ∀ (r : Int32) (σ' : zS), kf r σ' = some o2 → V l d F 0 0 (MW d h σ') lv pc' (.int r :: rest)) : V l d F 0 0 (MW d h σ) lv pc (.int p1 :: .int p0 :: rest) := by
  obtain ⟨q, h1, h2⟩ := zbd_some hf
  exact zr_callS y_M_apart q_1258 (As := [.int p0, .int p1]) (m_M_apart h1) rfl rfl pc' C hd hp hq hm hr (K _ _ h2)
/-! StepsBeyondModel.house(II)I -/
def f_M_house (p1 : Int32) (p2 : Int32) (σ : zS) : Option (Int32 × zS) :=
  zbd (f_M_isPlace p1 σ) fun r2 σ1 =>
  (if r2 = 0 then
  some (-2, σ1)
  else
  zbd (f_M_in p2 0 1 σ1) fun r4 σ3 =>
  (if r4 = 0 then
  some (-2, σ3)
  else
  (if (σ3.1 0) = 20 then
  some (-4, σ3)
  else
  zin (σ3.1 0) 20 (zlt (zsa σ3 1 (σ3.1 0) p1) fun σ5 =>
  zin (σ5.1 0) 20 (zlt (zsa σ5 2 (σ5.1 0) p2) fun σ6 =>
  zlt (zsg σ6 0 ((σ6.1 0) + 1)) fun σ7 =>
  some ((σ7.1 0) - 1, σ7))))))
set_option maxRecDepth 4000 in
theorem m_M_house {l : Launch} {d : zD} {h : Nat → Nat} {out : Int32 × zS} {σ : zS} {p1 : Int32} {p2 : Int32} (hf : f_M_house p1 p2 σ = some out) : zM l yX11_house cX11_house 3 (some .int) 2 42 d [.ref (h 0), .int p1, .int p2] (MW d h σ) (MW d h out.2) (some (.int out.1)) := by
  refine zM_of [some (.ref (h 0)), some (.int p1), some (.int p2)] (by decide +kernel) rfl (Nat.le_of_ble_eq_true rfl) (fun F C T => ?_)
  unfold f_M_house at hf
  refine zr_iload_n 1 1 C (by decide +kernel) rfl rfl ?_
  refine k_M_isPlace (idx := 150) 4 C (by decide +kernel) rfl q_1178 (zb2 rfl rfl) (Nat.le_of_ble_eq_true rfl) hf (fun r2 σ1 hf => ?_)
  refine zr_if_eq (off := 12) 16 7 C (by decide +kernel) (by decide) rfl hf (fun hf => ?_) (fun hf => ?_)
  · refine zr_bipush (v := (-2)) (-2) 18 C (by decide +kernel) rfl rfl ?_
    obtain rfl := Option.some.inj hf
    exact zr_iret C (by decide +kernel) T
  · refine zr_iload_n 2 8 C (by decide +kernel) rfl rfl ?_
    refine zr_iconst (v := 0) 0 9 C (by decide +kernel) rfl rfl ?_
    refine zr_iconst (v := 1) 1 10 C (by decide +kernel) rfl rfl ?_
    refine k_M_in (idx := 139) 13 C (by decide +kernel) rfl q_1181 (zb2 rfl rfl) (Nat.le_of_ble_eq_true rfl) hf (fun r4 σ3 hf => ?_)
    refine zr_if_ne (off := 6) 19 16 C (by decide +kernel) (by decide) rfl hf (fun hf => ?_) (fun hf => ?_)
    · refine zr_aload_n 0 20 C (by decide +kernel) rfl rfl ?_
      refine mg_0_0 (idx := 143) 23 C (by decide +kernel) rfl q_991 ?_
      refine zr_bipush (v := 20) 20 25 C (by decide +kernel) rfl rfl ?_
      refine zr_icmp_ne (off := 6) 31 28 C (by decide +kernel) (by decide) rfl hf (fun hf => ?_) (fun hf => ?_)
      · refine zr_aload_n 0 32 C (by decide +kernel) rfl rfl ?_
        refine mg_0_1 (idx := 7) 35 C (by decide +kernel) rfl q_992 ?_
        refine zr_aload_n 0 36 C (by decide +kernel) rfl rfl ?_
        refine mg_0_0 (idx := 143) 39 C (by decide +kernel) rfl q_991 ?_
        refine zr_iload_n 1 40 C (by decide +kernel) rfl rfl ?_
        refine ms_1 41 C (by decide +kernel) rfl hf (fun σ5 hf => ?_)
        refine zr_aload_n 0 42 C (by decide +kernel) rfl rfl ?_
        refine mg_0_2 (idx := 13) 45 C (by decide +kernel) rfl q_993 ?_
        refine zr_aload_n 0 46 C (by decide +kernel) rfl rfl ?_
        refine mg_0_0 (idx := 143) 49 C (by decide +kernel) rfl q_991 ?_
        refine zr_iload_n 2 50 C (by decide +kernel) rfl rfl ?_
        refine ms_2 51 C (by decide +kernel) rfl hf (fun σ6 hf => ?_)
        refine zr_aload_n 0 52 C (by decide +kernel) rfl rfl ?_
        refine zr_dup 53 C (by decide +kernel) rfl rfl ?_
        refine mg_0_0 (idx := 143) 56 C (by decide +kernel) rfl q_991 ?_
        refine zr_iconst (v := 1) 1 57 C (by decide +kernel) rfl rfl ?_
        refine zr_iadd 58 C (by decide +kernel) rfl ?_
        refine mp_0_0 (idx := 143) 61 C (by decide +kernel) rfl q_991 hf (fun σ7 hf => ?_)
        refine zr_aload_n 0 62 C (by decide +kernel) rfl rfl ?_
        refine mg_0_0 (idx := 143) 65 C (by decide +kernel) rfl q_991 ?_
        refine zr_iconst (v := 1) 1 66 C (by decide +kernel) rfl rfl ?_
        refine zr_isub 67 C (by decide +kernel) rfl ?_
        obtain rfl := Option.some.inj hf
        exact zr_iret C (by decide +kernel) T
      · refine zr_bipush (v := (-4)) (-4) 30 C (by decide +kernel) rfl rfl ?_
        obtain rfl := Option.some.inj hf
        exact zr_iret C (by decide +kernel) T
    · refine zr_bipush (v := (-2)) (-2) 18 C (by decide +kernel) rfl rfl ?_
      obtain rfl := Option.some.inj hf
      exact zr_iret C (by decide +kernel) T
theorem y_M_house : zY yX11_house cX11_house 3 (some .int) 2 := ⟨q_1177, q_90, by decide +kernel, by decide +kernel, by decide +kernel⟩
theorem k_M_house {l : Launch} {d : zD} {F : zF} {h : Nat → Nat} {σ : zS} {lv : List (Option Value)} {pc : Nat} {own : String} {cc : ByteArray} {nL fr lo idx : Nat} {rest : List Value} {β : Type} {kf : Int32 → zS → Option β} {o2 : β}  {p1 : Int32} {p2 : Int32} (pc' : Nat) (C : zOk d F own cc nL fr lo) (hd : decode cc pc = .ok (.invokevirtual idx, 3)) (hp : pc + 3 = pc') (hq : Cond.methodLink own idx yX11_house ∈ zW) (hm : 2 + 1 ≤ fr ∧ 8 + (3 + 11) + 42 ≤ lo) (hr : (rest.map fun v => v.category).sum ≤ 8) (hf : zbd (f_M_house p1 p2 σ) kf = some o2) (K : ∀ (r : Int32) (σ' : zS), kf r σ' = some o2 → V l d F 0 0 (MW d h σ') lv pc' (.int r :: rest)) : V l d F 0 0 (MW d h σ) lv pc (.int p2 :: .int p1 :: .ref (h 0) :: rest) := by
  obtain ⟨q, h1, h2⟩ := zbd_some hf
  exact zr_callV y_M_house ⟨q_1175, q_1176⟩ 0 rfl rfl (As := [.int p1, .int p2]) (m_M_house h1) rfl rfl pc' C hd hp hq hm hr (K _ _ h2)
/-! StepsBeyondModel.hut(II)I -/
def f_M_hut (p1 : Int32) (p2 : Int32) (σ : zS) : Option (Int32 × zS) :=
  zbd (f_M_isHouse p1 σ) fun r2 σ1 =>
  (if r2 = 0 then
  some (-1, σ1)
  else
  zbd (f_M_in p2 0 1 σ1) fun r4 σ3 =>
  (if r4 = 0 then
  some (-2, σ3)
  else
  zin p1 20 (zlt (σ3.2 2 p1.toNatClampNeg) fun v5 => 
  zin p1 20 (zlt (zsa σ3 2 p1 p2) fun σ6 =>
  some (v5, σ6)))))
set_option maxRecDepth 4000 in
theorem m_M_hut {l : Launch} {d : zD} {h : Nat → Nat} {out : Int32 × zS} {σ : zS} {p1 : Int32} {p2 : Int32} (hf : f_M_hut p1 p2 σ = some out) : zM l yX11_hut cX11_hut 4 (some .int) 2 43 d [.ref (h 0), .int p1, .int p2] (MW d h σ) (MW d h out.2) (some (.int out.1)) := by
  refine zM_of [some (.ref (h 0)), some (.int p1), some (.int p2), none] (by decide +kernel) rfl (Nat.le_of_ble_eq_true rfl) (fun F C T => ?_)
  unfold f_M_hut at hf
  refine zr_aload_n 0 1 C (by decide +kernel) rfl rfl ?_
  refine zr_iload_n 1 2 C (by decide +kernel) rfl rfl ?_
  refine k_M_isHouse (idx := 154) 5 C (by decide +kernel) rfl q_1188 (zb2 rfl rfl) (Nat.le_of_ble_eq_true rfl) hf (fun r2 σ1 hf => ?_)
  refine zr_if_ne (off := 5) 10 8 C (by decide +kernel) (by decide) rfl hf (fun hf => ?_) (fun hf => ?_)
  · refine zr_iload_n 2 11 C (by decide +kernel) rfl rfl ?_
    refine zr_iconst (v := 0) 0 12 C (by decide +kernel) rfl rfl ?_
    refine zr_iconst (v := 1) 1 13 C (by decide +kernel) rfl rfl ?_
    refine k_M_in (idx := 139) 16 C (by decide +kernel) rfl q_1181 (zb2 rfl rfl) (Nat.le_of_ble_eq_true rfl) hf (fun r4 σ3 hf => ?_)
    refine zr_if_ne (off := 6) 22 19 C (by decide +kernel) (by decide) rfl hf (fun hf => ?_) (fun hf => ?_)
    · refine zr_aload_n 0 23 C (by decide +kernel) rfl rfl ?_
      refine mg_0_2 (idx := 13) 26 C (by decide +kernel) rfl q_993 ?_
      refine zr_iload_n 1 27 C (by decide +kernel) rfl rfl ?_
      refine ml_2 28 C (by decide +kernel) rfl hf (fun hf => ?_)
      refine zr_name hf (fun v5 hf => ?_)
      refine zr_istore_n 3 [some (.ref (h 0)), some (.int p1), some (.int p2), some (.int v5)] 29 C (by decide +kernel) rfl (by decide) rfl rfl ?_
      refine zr_aload_n 0 30 C (by decide +kernel) rfl rfl ?_
      refine mg_0_2 (idx := 13) 33 C (by decide +kernel) rfl q_993 ?_
      refine zr_iload_n 1 34 C (by decide +kernel) rfl rfl ?_
      refine zr_iload_n 2 35 C (by decide +kernel) rfl rfl ?_
      refine ms_2 36 C (by decide +kernel) rfl hf (fun σ6 hf => ?_)
      refine zr_iload_n 3 37 C (by decide +kernel) rfl rfl ?_
      obtain rfl := Option.some.inj hf
      exact zr_iret C (by decide +kernel) T
    · refine zr_bipush (v := (-2)) (-2) 21 C (by decide +kernel) rfl rfl ?_
      obtain rfl := Option.some.inj hf
      exact zr_iret C (by decide +kernel) T
  · refine zr_iconst (v := (-1)) (-1) 9 C (by decide +kernel) rfl rfl ?_
    obtain rfl := Option.some.inj hf
    exact zr_iret C (by decide +kernel) T
theorem y_M_hut : zY yX11_hut cX11_hut 4 (some .int) 2 := ⟨q_1187, q_90, by decide +kernel, by decide +kernel, by decide +kernel⟩
theorem k_M_hut {l : Launch} {d : zD} {F : zF} {h : Nat → Nat} {σ : zS} {lv : List (Option Value)} {pc : Nat} {own : String} {cc : ByteArray} {nL fr lo idx : Nat} {rest : List Value} {β : Type} {kf : Int32 → zS → Option β} {o2 : β}  {p1 : Int32} {p2 : Int32} (pc' : Nat) (C : zOk d F own cc nL fr lo) (hd : decode cc pc = .ok (.invokevirtual idx, 3)) (hp : pc + 3 = pc') (hq : Cond.methodLink own idx yX11_hut ∈ zW) (hm : 2 + 1 ≤ fr ∧ 8 + (4 + 11) + 43 ≤ lo) (hr : (rest.map fun v => v.category).sum ≤ 8) (hf : zbd (f_M_hut p1 p2 σ) kf = some o2) (K : ∀ (r : Int32) (σ' : zS), kf r σ' = some o2 → V l d F 0 0 (MW d h σ') lv pc' (.int r :: rest)) : V l d F 0 0 (MW d h σ) lv pc (.int p2 :: .int p1 :: .ref (h 0) :: rest) := by
  obtain ⟨q, h1, h2⟩ := zbd_some hf
  exact zr_callV y_M_hut ⟨q_1185, q_1186⟩ 0 rfl rfl (As := [.int p1, .int p2]) (m_M_hut h1) rfl rfl pc' C hd hp hq hm hr (K _ _ h2)
/-! StepsBeyondModel.feed(JI)I -/
def f_M_feed_33b (k33 : Int64 → Int32 → zS → Option (Int32 × zS)) (x1 : Int64) (x4 : Int32) (σ : zS) : Option (Int32 × zS) :=
  (if x4 < 0 then
  some (σ.1 20, σ)
  else
  zin (σ.1 20) 160 (zlt (zsa σ 14 (σ.1 20) (((zlshr x1 (8 * x4)) &&& 255).toInt32)) fun σ1 =>
  zlt (zsg σ1 20 ((σ1.1 20) + 1)) fun σ2 =>
  k33 x1 (x4 + (-1)) σ2))
set_option maxRecDepth 4000 in
theorem w_M_feed_33b {l : Launch} {d : zD} {F : zF} {h : Nat → Nat} {out : Int32 × zS}  {k33 : Int64 → Int32 → zS → Option (Int32 × zS)} (C : zOk d F RX11 cX11_feed 5 1 22) (T : zRt d F (some .int) (some (.int out.1)) (MW d h out.2)) (H33 : ∀ (x1 : Int64) (x4 : Int32) (σ : zS), k33 x1 x4 σ = some out → V l d F 0 0 (MW d h σ) [some (.ref (h 0)), some (.long x1), none, none, some (.int x4)] 33 []) (x1 : Int64) (x4 : Int32) (σ : zS) (hf : f_M_feed_33b k33 x1 x4 σ = some out) : V l d F 0 0 (MW d h σ) [some (.ref (h 0)), some (.long x1), none, none, some (.int x4)] 33 [] := by
  unfold f_M_feed_33b at hf
  refine zr_iload 4 35 C (by decide +kernel) rfl rfl ?_
  refine zr_if_lt (off := 40) 75 38 C (by decide +kernel) (by decide) rfl hf (fun hf => ?_) (fun hf => ?_)
  · refine zr_aload_n 0 76 C (by decide +kernel) rfl rfl ?_
    refine mg_0_20 (idx := 157) 79 C (by decide +kernel) rfl q_1011 ?_
    obtain rfl := Option.some.inj hf
    exact zr_iret C (by decide +kernel) T
  · refine zr_aload_n 0 39 C (by decide +kernel) rfl rfl ?_
    refine mg_0_19 (idx := 49) 42 C (by decide +kernel) rfl q_1010 ?_
    refine zr_aload_n 0 43 C (by decide +kernel) rfl rfl ?_
    refine mg_0_20 (idx := 157) 46 C (by decide +kernel) rfl q_1011 ?_
    refine zr_lload_n 1 47 C (by decide +kernel) rfl rfl ?_
    refine zr_bipush (v := 8) 8 49 C (by decide +kernel) rfl rfl ?_
    refine zr_iload 4 51 C (by decide +kernel) rfl rfl ?_
    refine zr_imul 52 C (by decide +kernel) rfl ?_
    refine zr_lshr 53 C (by decide +kernel) rfl ?_
    refine zr_ldc2 (v := 255) (i := 160) 56 C (by decide +kernel) rfl q_1196 ?_
    refine zr_land 57 C (by decide +kernel) rfl ?_
    refine zr_l2i 58 C (by decide +kernel) rfl ?_
    refine ms_14 59 C (by decide +kernel) rfl hf (fun σ1 hf => ?_)
    refine zr_aload_n 0 60 C (by decide +kernel) rfl rfl ?_
    refine zr_dup 61 C (by decide +kernel) rfl rfl ?_
    refine mg_0_20 (idx := 157) 64 C (by decide +kernel) rfl q_1011 ?_
    refine zr_iconst (v := 1) 1 65 C (by decide +kernel) rfl rfl ?_
    refine zr_iadd 66 C (by decide +kernel) rfl ?_
    refine mp_0_20 (idx := 157) 69 C (by decide +kernel) rfl q_1011 hf (fun σ2 hf => ?_)
    refine zr_iinc (j := -1) 4 [some (.ref (h 0)), some (.long x1), none, none, some (.int (x4 + (-1)))] 72 C (by decide +kernel) rfl rfl rfl (by decide) rfl rfl ?_
    refine zr_goto (off := -39) 33 C (by decide +kernel) (by decide) ?_
    exact H33 _ _ _ hf
def f_M_feed_33  : Nat → Int64 → Int32 → zS → Option (Int32 × zS)
  | 0, _, _, _ => none
  | n + 1, x1, x4,  σ => f_M_feed_33b (fun x1 x4 σ => f_M_feed_33  n x1 x4 σ) x1 x4 σ
theorem w_M_feed_33 {l : Launch} {d : zD} {F : zF} {h : Nat → Nat} {out : Int32 × zS}   (C : zOk d F RX11 cX11_feed 5 1 22) (T : zRt d F (some .int) (some (.int out.1)) (MW d h out.2))  : ∀ (n : Nat) (x1 : Int64) (x4 : Int32) (σ : zS), f_M_feed_33  n x1 x4 σ = some out → V l d F 0 0 (MW d h σ) [some (.ref (h 0)), some (.long x1), none, none, some (.int x4)] 33 [] := by
  intro n
  induction n with
  | zero =>
    intro x1 x4 σ hf
    cases hf
  | succ n ih =>
    intro x1 x4 σ hf
    exact w_M_feed_33b C T ih x1 x4 σ hf
def f_M_feed (p1 : Int64) (p3 : Int32) (σ : zS) : Option (Int32 × zS) :=
  zbd (f_M_in p3 1 8 σ) fun r2 σ1 =>
  (if r2 = 0 then
  some (-2, σ1)
  else
  (if ((σ1.1 20) + p3) ≤ 160 then
  zlt (p3 - 1) fun v3 => 
  f_M_feed_33 zfu p1 v3 σ1
  else
  some (-4, σ1)))
set_option maxRecDepth 4000 in
theorem m_M_feed {l : Launch} {d : zD} {h : Nat → Nat} {out : Int32 × zS} {σ : zS} {p1 : Int64} {p3 : Int32} (hf : f_M_feed p1 p3 σ = some out) : zM l yX11_feed cX11_feed 5 (some .int) 1 22 d [.ref (h 0), .long p1, .int p3] (MW d h σ) (MW d h out.2) (some (.int out.1)) := by
  refine zM_of [some (.ref (h 0)), some (.long p1), none, some (.int p3), none] (by decide +kernel) rfl (Nat.le_of_ble_eq_true rfl) (fun F C T => ?_)
  unfold f_M_feed at hf
  refine zr_iload_n 3 1 C (by decide +kernel) rfl rfl ?_
  refine zr_iconst (v := 1) 1 2 C (by decide +kernel) rfl rfl ?_
  refine zr_bipush (v := 8) 8 4 C (by decide +kernel) rfl rfl ?_
  refine k_M_in (idx := 139) 7 C (by decide +kernel) rfl q_1181 (zb2 rfl rfl) (Nat.le_of_ble_eq_true rfl) hf (fun r2 σ1 hf => ?_)
  refine zr_if_ne (off := 6) 13 10 C (by decide +kernel) (by decide) rfl hf (fun hf => ?_) (fun hf => ?_)
  · refine zr_aload_n 0 14 C (by decide +kernel) rfl rfl ?_
    refine mg_0_20 (idx := 157) 17 C (by decide +kernel) rfl q_1011 ?_
    refine zr_iload_n 3 18 C (by decide +kernel) rfl rfl ?_
    refine zr_iadd 19 C (by decide +kernel) rfl ?_
    refine zr_sipush (v := 160) 160 22 C (by decide +kernel) rfl rfl ?_
    refine zr_icmp_le (off := 6) 28 25 C (by decide +kernel) (by decide) rfl hf (fun hf => ?_) (fun hf => ?_)
    · refine zr_iload_n 3 29 C (by decide +kernel) rfl rfl ?_
      refine zr_iconst (v := 1) 1 30 C (by decide +kernel) rfl rfl ?_
      refine zr_isub 31 C (by decide +kernel) rfl ?_
      refine zr_name hf (fun v3 hf => ?_)
      refine zr_istore 4 [some (.ref (h 0)), some (.long p1), none, some (.int p3), some (.int v3)] 33 C (by decide +kernel) rfl (by decide) rfl rfl ?_
      refine zr_less (zA (zA (zN (zN (zA zE))))) ?_
      exact w_M_feed_33 C T zfu _ _ _ hf
    · refine zr_bipush (v := (-4)) (-4) 27 C (by decide +kernel) rfl rfl ?_
      obtain rfl := Option.some.inj hf
      exact zr_iret C (by decide +kernel) T
  · refine zr_bipush (v := (-2)) (-2) 12 C (by decide +kernel) rfl rfl ?_
    obtain rfl := Option.some.inj hf
    exact zr_iret C (by decide +kernel) T
theorem y_M_feed : zY yX11_feed cX11_feed 5 (some .int) 2 := ⟨q_1195, q_90, by decide +kernel, by decide +kernel, by decide +kernel⟩
theorem k_M_feed {l : Launch} {d : zD} {F : zF} {h : Nat → Nat} {σ : zS} {lv : List (Option Value)} {pc : Nat} {own : String} {cc : ByteArray} {nL fr lo idx : Nat} {rest : List Value} {β : Type} {kf : Int32 → zS → Option β} {o2 : β}  {p1 : Int64} {p3 : Int32} (pc' : Nat) (C : zOk d F own cc nL fr lo) (hd : decode cc pc = .ok (.invokevirtual idx, 3)) (hp : pc + 3 = pc') (hq : Cond.methodLink own idx yX11_feed ∈ zW) (hm : 1 + 1 ≤ fr ∧ 8 + (5 + 11) + 22 ≤ lo) (hr : (rest.map fun v => v.category).sum ≤ 8) (hf : zbd (f_M_feed p1 p3 σ) kf = some o2) (K : ∀ (r : Int32) (σ' : zS), kf r σ' = some o2 → V l d F 0 0 (MW d h σ') lv pc' (.int r :: rest)) : V l d F 0 0 (MW d h σ) lv pc (.int p3 :: .long p1 :: .ref (h 0) :: rest) := by
  obtain ⟨q, h1, h2⟩ := zbd_some hf
  exact zr_callV y_M_feed ⟨q_1193, q_1194⟩ 0 rfl rfl (As := [.long p1, .int p3]) (m_M_feed h1) rfl rfl pc' C hd hp hq hm hr (K _ _ h2)
/-! StepsBeyondModel.letters()J -/
def f_M_letters_76  (x1 : Int64) (x3 : Int32) (σ : zS) : Option (Int64 × zS) :=
  (if x3 ≤ 7 then
  some (x1, σ)
  else
  some ((0 : Int64), σ))
set_option maxRecDepth 4000 in
theorem w_M_letters_76 {l : Launch} {d : zD} {F : zF} {h : Nat → Nat} {out : Int64 × zS}   (C : zOk d F RX11 cX11_letters 4 1 22) (T : zRt d F (some .long) (some (.long out.1)) (MW d h out.2))  (x1 : Int64) (x3 : Int32) (σ : zS) (hf : f_M_letters_76  x1 x3 σ = some out) : V l d F 0 0 (MW d h σ) [none, some (.long x1), none, some (.int x3)] 76 [] := by
  unfold f_M_letters_76 at hf
  refine zr_iload_n 3 77 C (by decide +kernel) rfl rfl ?_
  refine zr_bipush (v := 7) 7 79 C (by decide +kernel) rfl rfl ?_
  refine zr_icmp_le (off := 7) 86 82 C (by decide +kernel) (by decide) rfl hf (fun hf => ?_) (fun hf => ?_)
  · refine zr_lload_n 1 87 C (by decide +kernel) rfl rfl ?_
    obtain rfl := Option.some.inj hf
    exact zr_lret C (by decide +kernel) T
  · refine zr_lconst (v := 0) (i := 0) 83 C (by decide +kernel) rfl rfl ?_
    refine zr_goto (off := 4) 87 C (by decide +kernel) (by decide) ?_
    obtain rfl := Option.some.inj hf
    exact zr_lret C (by decide +kernel) T
def f_M_letters_59 (k4 : Int64 → Int32 → zS → Option (Int64 × zS)) (x3 : Int32) (y0 : Int64) (σ : zS) : Option (Int64 × zS) :=
  zlt (zsg σ 35 ((σ.1 35) + 1)) fun σ1 =>
  k4 y0 (x3 + 1) σ1
set_option maxRecDepth 4000 in
theorem w_M_letters_59 {l : Launch} {d : zD} {F : zF} {h : Nat → Nat} {out : Int64 × zS}  {k4 : Int64 → Int32 → zS → Option (Int64 × zS)} (C : zOk d F RX11 cX11_letters 4 1 22) (T : zRt d F (some .long) (some (.long out.1)) (MW d h out.2)) (H4 : ∀ (x1 : Int64) (x3 : Int32) (σ : zS), k4 x1 x3 σ = some out → V l d F 0 0 (MW d h σ) [some (.ref (h 0)), some (.long x1), none, some (.int x3)] 4 []) (x3 : Int32) (y0 : Int64) (σ : zS) (hf : f_M_letters_59 k4 x3 y0 σ = some out) : V l d F 0 0 (MW d h σ) [some (.ref (h 0)), none, none, some (.int x3)] 59 [.long y0] := by
  unfold f_M_letters_59 at hf
  refine zr_lstore_n 1 [some (.ref (h 0)), some (.long y0), none, some (.int x3)] 60 C (by decide +kernel) rfl (by decide) rfl rfl ?_
  refine zr_iinc (j := 1) 3 [some (.ref (h 0)), some (.long y0), none, some (.int (x3 + 1))] 63 C (by decide +kernel) rfl rfl rfl (by decide) rfl rfl ?_
  refine zr_aload_n 0 64 C (by decide +kernel) rfl rfl ?_
  refine zr_dup 65 C (by decide +kernel) rfl rfl ?_
  refine mg_0_35 (idx := 162) 68 C (by decide +kernel) rfl q_1026 ?_
  refine zr_iconst (v := 1) 1 69 C (by decide +kernel) rfl rfl ?_
  refine zr_iadd 70 C (by decide +kernel) rfl ?_
  refine mp_0_35 (idx := 162) 73 C (by decide +kernel) rfl q_1026 hf (fun σ1 hf => ?_)
  refine zr_goto (off := -69) 4 C (by decide +kernel) (by decide) ?_
  exact H4 _ _ _ hf
def f_M_letters_4b (k4 : Int64 → Int32 → zS → Option (Int64 × zS)) (x1 : Int64) (x3 : Int32) (σ : zS) : Option (Int64 × zS) :=
  (if (σ.1 20) ≤ (σ.1 35) then
  f_M_letters_76 x1 x3 σ
  else
  zin (σ.1 35) 160 (zbd (f_M_in (σ.2 14 (σ.1 35).toNatClampNeg) 97 122 σ) fun r2 σ1 =>
  (if r2 = 0 then
  f_M_letters_76 x1 x3 σ1
  else
  (if 8 ≤ x3 then
  f_M_letters_59 k4 x3 x1 σ1
  else
  zin (σ1.1 35) 160 (f_M_letters_59 k4 x3 ((zlshl x1 8) ||| ((σ1.2 14 (σ1.1 35).toNatClampNeg).toInt64)) σ1)))))
set_option maxRecDepth 4000 in
theorem w_M_letters_4b {l : Launch} {d : zD} {F : zF} {h : Nat → Nat} {out : Int64 × zS}  {k4 : Int64 → Int32 → zS → Option (Int64 × zS)} (C : zOk d F RX11 cX11_letters 4 1 22) (T : zRt d F (some .long) (some (.long out.1)) (MW d h out.2)) (H4 : ∀ (x1 : Int64) (x3 : Int32) (σ : zS), k4 x1 x3 σ = some out → V l d F 0 0 (MW d h σ) [some (.ref (h 0)), some (.long x1), none, some (.int x3)] 4 []) (x1 : Int64) (x3 : Int32) (σ : zS) (hf : f_M_letters_4b k4 x1 x3 σ = some out) : V l d F 0 0 (MW d h σ) [some (.ref (h 0)), some (.long x1), none, some (.int x3)] 4 [] := by
  unfold f_M_letters_4b at hf
  refine zr_aload_n 0 5 C (by decide +kernel) rfl rfl ?_
  refine mg_0_35 (idx := 162) 8 C (by decide +kernel) rfl q_1026 ?_
  refine zr_aload_n 0 9 C (by decide +kernel) rfl rfl ?_
  refine mg_0_20 (idx := 157) 12 C (by decide +kernel) rfl q_1011 ?_
  refine zr_icmp_ge (off := 64) 76 15 C (by decide +kernel) (by decide) rfl hf (fun hf => ?_) (fun hf => ?_)
  · refine zr_less (zN (zA (zN (zA zE)))) ?_
    exact w_M_letters_76 C T _ _ _ hf
  · refine zr_aload_n 0 16 C (by decide +kernel) rfl rfl ?_
    refine mg_0_19 (idx := 49) 19 C (by decide +kernel) rfl q_1010 ?_
    refine zr_aload_n 0 20 C (by decide +kernel) rfl rfl ?_
    refine mg_0_35 (idx := 162) 23 C (by decide +kernel) rfl q_1026 ?_
    refine ml_14 24 C (by decide +kernel) rfl hf (fun hf => ?_)
    refine zr_bipush (v := 97) 97 26 C (by decide +kernel) rfl rfl ?_
    refine zr_bipush (v := 122) 122 28 C (by decide +kernel) rfl rfl ?_
    refine k_M_in (idx := 139) 31 C (by decide +kernel) rfl q_1181 (zb2 rfl rfl) (Nat.le_of_ble_eq_true rfl) hf (fun r2 σ1 hf => ?_)
    refine zr_if_eq (off := 45) 76 34 C (by decide +kernel) (by decide) rfl hf (fun hf => ?_) (fun hf => ?_)
    · refine zr_less (zN (zA (zN (zA zE)))) ?_
      exact w_M_letters_76 C T _ _ _ hf
    · refine zr_iload_n 3 35 C (by decide +kernel) rfl rfl ?_
      refine zr_bipush (v := 8) 8 37 C (by decide +kernel) rfl rfl ?_
      refine zr_icmp_ge (off := 21) 58 40 C (by decide +kernel) (by decide) rfl hf (fun hf => ?_) (fun hf => ?_)
      · refine zr_lload_n 1 59 C (by decide +kernel) rfl rfl ?_
        refine zr_less (zA (zN (zN (zA zE)))) ?_
        exact w_M_letters_59 C T H4 _ _ _ hf
      · refine zr_lload_n 1 41 C (by decide +kernel) rfl rfl ?_
        refine zr_bipush (v := 8) 8 43 C (by decide +kernel) rfl rfl ?_
        refine zr_lshl 44 C (by decide +kernel) rfl ?_
        refine zr_aload_n 0 45 C (by decide +kernel) rfl rfl ?_
        refine mg_0_19 (idx := 49) 48 C (by decide +kernel) rfl q_1010 ?_
        refine zr_aload_n 0 49 C (by decide +kernel) rfl rfl ?_
        refine mg_0_35 (idx := 162) 52 C (by decide +kernel) rfl q_1026 ?_
        refine ml_14 53 C (by decide +kernel) rfl hf (fun hf => ?_)
        refine zr_i2l 54 C (by decide +kernel) rfl ?_
        refine zr_lor 55 C (by decide +kernel) rfl ?_
        refine zr_goto (off := 4) 59 C (by decide +kernel) (by decide) ?_
        refine zr_less (zA (zN (zN (zA zE)))) ?_
        exact w_M_letters_59 C T H4 _ _ _ hf
def f_M_letters_4  : Nat → Int64 → Int32 → zS → Option (Int64 × zS)
  | 0, _, _, _ => none
  | n + 1, x1, x3,  σ => f_M_letters_4b (fun x1 x3 σ => f_M_letters_4  n x1 x3 σ) x1 x3 σ
theorem w_M_letters_4 {l : Launch} {d : zD} {F : zF} {h : Nat → Nat} {out : Int64 × zS}   (C : zOk d F RX11 cX11_letters 4 1 22) (T : zRt d F (some .long) (some (.long out.1)) (MW d h out.2))  : ∀ (n : Nat) (x1 : Int64) (x3 : Int32) (σ : zS), f_M_letters_4  n x1 x3 σ = some out → V l d F 0 0 (MW d h σ) [some (.ref (h 0)), some (.long x1), none, some (.int x3)] 4 [] := by
  intro n
  induction n with
  | zero =>
    intro x1 x3 σ hf
    cases hf
  | succ n ih =>
    intro x1 x3 σ hf
    exact w_M_letters_4b C T ih x1 x3 σ hf
def f_M_letters  (σ : zS) : Option (Int64 × zS) :=
  zlt (0 : Int64) fun v1 => 
  f_M_letters_4 zfu v1 0 σ
set_option maxRecDepth 4000 in
theorem m_M_letters {l : Launch} {d : zD} {h : Nat → Nat} {out : Int64 × zS} {σ : zS}  (hf : f_M_letters  σ = some out) : zM l yX11_letters cX11_letters 4 (some .long) 1 22 d [.ref (h 0)] (MW d h σ) (MW d h out.2) (some (.long out.1)) := by
  refine zM_of [some (.ref (h 0)), none, none, none] (by decide +kernel) rfl (Nat.le_of_ble_eq_true rfl) (fun F C T => ?_)
  unfold f_M_letters at hf
  refine zr_lconst (v := 0) (i := 0) 1 C (by decide +kernel) rfl rfl ?_
  refine zr_namel hf (fun v1 hf => ?_)
  refine zr_lstore_n 1 [some (.ref (h 0)), some (.long v1), none, none] 2 C (by decide +kernel) rfl (by decide) rfl rfl ?_
  refine zr_iconst (v := 0) 0 3 C (by decide +kernel) rfl rfl ?_
  refine zr_istore_n 3 [some (.ref (h 0)), some (.long v1), none, some (.int 0)] 4 C (by decide +kernel) rfl (by decide) rfl rfl ?_
  exact w_M_letters_4 C T zfu _ _ _ hf
theorem y_M_letters : zY yX11_letters cX11_letters 4 (some .long) 0 := ⟨q_1208, q_90, by decide +kernel, by decide +kernel, by decide +kernel⟩
theorem k_M_letters {l : Launch} {d : zD} {F : zF} {h : Nat → Nat} {σ : zS} {lv : List (Option Value)} {pc : Nat} {own : String} {cc : ByteArray} {nL fr lo idx : Nat} {rest : List Value} {β : Type} {kf : Int64 → zS → Option β} {o2 : β}   (pc' : Nat) (C : zOk d F own cc nL fr lo) (hd : decode cc pc = .ok (.invokevirtual idx, 3)) (hp : pc + 3 = pc') (hq : Cond.methodLink own idx yX11_letters ∈ zW) (hm : 1 + 1 ≤ fr ∧ 8 + (4 + 11) + 22 ≤ lo) (hr : (rest.map fun v => v.category).sum ≤ 8) (hf : zbd (f_M_letters  σ) kf = some o2) (K : ∀ (r : Int64) (σ' : zS), kf r σ' = some o2 → V l d F 0 0 (MW d h σ') lv pc' (.long r :: rest)) : V l d F 0 0 (MW d h σ) lv pc (.ref (h 0) :: rest) := by
  obtain ⟨q, h1, h2⟩ := zbd_some hf
  exact zr_callV y_M_letters ⟨q_1207, q_39⟩ 0 rfl rfl (As := []) (m_M_letters h1) rfl rfl pc' C hd hp hq hm hr (K _ _ h2)
/-! StepsBeyondModel.next()V -/
def f_M_next_374  (y1 : Int32) (σ : zS) : Option (Int32 × zS) :=
  zlt (zsg σ 37 y1) fun σ1 =>
  zlt (zsg σ1 35 ((σ1.1 35) + 1)) fun σ2 =>
  some (0, σ2)
set_option maxRecDepth 4000 in
theorem w_M_next_374 {l : Launch} {d : zD} {F : zF} {h : Nat → Nat} {out : Int32 × zS}   (C : zOk d F RX11 cX11_next 5 2 45) (T : zRt d F none none (MW d h out.2))  (y1 : Int32) (σ : zS) (hf : f_M_next_374  y1 σ = some out) : V l d F 0 0 (MW d h σ) [some (.ref (h 0)), none, none, none, none] 374 [.int y1, .ref (h 0)] := by
  unfold f_M_next_374 at hf
  refine mp_0_37 (idx := 168) 377 C (by decide +kernel) rfl q_1028 hf (fun σ1 hf => ?_)
  refine zr_aload_n 0 378 C (by decide +kernel) rfl rfl ?_
  refine zr_dup 379 C (by decide +kernel) rfl rfl ?_
  refine mg_0_35 (idx := 162) 382 C (by decide +kernel) rfl q_1026 ?_
  refine zr_iconst (v := 1) 1 383 C (by decide +kernel) rfl rfl ?_
  refine zr_iadd 384 C (by decide +kernel) rfl ?_
  refine mp_0_35 (idx := 162) 387 C (by decide +kernel) rfl q_1026 hf (fun σ2 hf => ?_)
  obtain rfl := Option.some.inj hf
  exact zr_vret C (by decide +kernel) T
def f_M_next_363  (x1 : Int32) (y0 : Int32) (σ : zS) : Option (Int32 × zS) :=
  (if y0 = 0 then
  f_M_next_374 (-1) σ
  else
  f_M_next_374 x1 σ)
set_option maxRecDepth 4000 in
theorem w_M_next_363 {l : Launch} {d : zD} {F : zF} {h : Nat → Nat} {out : Int32 × zS}   (C : zOk d F RX11 cX11_next 5 2 45) (T : zRt d F none none (MW d h out.2))  (x1 : Int32) (y0 : Int32) (σ : zS) (hf : f_M_next_363  x1 y0 σ = some out) : V l d F 0 0 (MW d h σ) [some (.ref (h 0)), some (.int x1), none, none, none] 363 [.int y0] := by
  unfold f_M_next_363 at hf
  refine zr_istore_n 2 [some (.ref (h 0)), some (.int x1), some (.int y0), none, none] 364 C (by decide +kernel) rfl (by decide) rfl rfl ?_
  refine zr_aload_n 0 365 C (by decide +kernel) rfl rfl ?_
  refine zr_iload_n 2 366 C (by decide +kernel) rfl rfl ?_
  refine zr_if_eq (off := 7) 373 369 C (by decide +kernel) (by decide) rfl hf (fun hf => ?_) (fun hf => ?_)
  · refine zr_iconst (v := (-1)) (-1) 374 C (by decide +kernel) rfl rfl ?_
    refine zr_less (zA (zN (zN (zN (zN zE))))) ?_
    exact w_M_next_374 C T _ _ hf
  · refine zr_iload_n 1 370 C (by decide +kernel) rfl rfl ?_
    refine zr_goto (off := 4) 374 C (by decide +kernel) (by decide) ?_
    refine zr_less (zA (zN (zN (zN (zN zE))))) ?_
    exact w_M_next_374 C T _ _ hf
def f_M_next_358  (x1 : Int32) (σ : zS) : Option (Int32 × zS) :=
  f_M_next_363 x1 1 σ
set_option maxRecDepth 4000 in
theorem w_M_next_358 {l : Launch} {d : zD} {F : zF} {h : Nat → Nat} {out : Int32 × zS}   (C : zOk d F RX11 cX11_next 5 2 45) (T : zRt d F none none (MW d h out.2))  (x1 : Int32) (σ : zS) (hf : f_M_next_358  x1 σ = some out) : V l d F 0 0 (MW d h σ) [some (.ref (h 0)), some (.int x1), none, none, none] 358 [] := by
  unfold f_M_next_358 at hf
  refine zr_iconst (v := 1) 1 359 C (by decide +kernel) rfl rfl ?_
  refine zr_goto (off := 4) 363 C (by decide +kernel) (by decide) ?_
  exact w_M_next_363 C T _ _ _ hf
def f_M_next_304  (y1 : Int32) (σ : zS) : Option (Int32 × zS) :=
  zlt (zsg σ 37 y1) fun σ1 =>
  some (0, σ1)
set_option maxRecDepth 4000 in
theorem w_M_next_304 {l : Launch} {d : zD} {F : zF} {h : Nat → Nat} {out : Int32 × zS}   (C : zOk d F RX11 cX11_next 5 2 45) (T : zRt d F none none (MW d h out.2))  (y1 : Int32) (σ : zS) (hf : f_M_next_304  y1 σ = some out) : V l d F 0 0 (MW d h σ) [none, none, none, none, none] 304 [.int y1, .ref (h 0)] := by
  unfold f_M_next_304 at hf
  refine mp_0_37 (idx := 168) 307 C (by decide +kernel) rfl q_1028 hf (fun σ1 hf => ?_)
  refine zr_goto (off := 80) 387 C (by decide +kernel) (by decide) ?_
  obtain rfl := Option.some.inj hf
  exact zr_vret C (by decide +kernel) T
def f_M_next_293  (x2 : Int32) (σ : zS) : Option (Int32 × zS) :=
  (if x2 ≤ 4 then
  f_M_next_304 1 σ
  else
  f_M_next_304 (-1) σ)
set_option maxRecDepth 4000 in
theorem w_M_next_293 {l : Launch} {d : zD} {F : zF} {h : Nat → Nat} {out : Int32 × zS}   (C : zOk d F RX11 cX11_next 5 2 45) (T : zRt d F none none (MW d h out.2))  (x2 : Int32) (σ : zS) (hf : f_M_next_293  x2 σ = some out) : V l d F 0 0 (MW d h σ) [some (.ref (h 0)), none, some (.int x2), none, none] 293 [] := by
  unfold f_M_next_293 at hf
  refine zr_aload_n 0 294 C (by decide +kernel) rfl rfl ?_
  refine zr_iload_n 2 295 C (by decide +kernel) rfl rfl ?_
  refine zr_iconst (v := 4) 4 296 C (by decide +kernel) rfl rfl ?_
  refine zr_icmp_le (off := 7) 303 299 C (by decide +kernel) (by decide) rfl hf (fun hf => ?_) (fun hf => ?_)
  · refine zr_iconst (v := 1) 1 304 C (by decide +kernel) rfl rfl ?_
    refine zr_less (zN (zN (zN (zN (zN zE))))) ?_
    exact w_M_next_304 C T _ _ hf
  · refine zr_iconst (v := (-1)) (-1) 300 C (by decide +kernel) rfl rfl ?_
    refine zr_goto (off := 4) 304 C (by decide +kernel) (by decide) ?_
    refine zr_less (zN (zN (zN (zN (zN zE))))) ?_
    exact w_M_next_304 C T _ _ hf
def f_M_next_274 (k214 : Int32 → zS → Option (Int32 × zS)) (x2 : Int32) (y1 : Int32) (σ : zS) : Option (Int32 × zS) :=
  zlt (zsg σ 38 y1) fun σ1 =>
  zlt (zsg σ1 35 ((σ1.1 35) + 1)) fun σ2 =>
  k214 (x2 + 1) σ2
set_option maxRecDepth 4000 in
theorem w_M_next_274 {l : Launch} {d : zD} {F : zF} {h : Nat → Nat} {out : Int32 × zS}  {k214 : Int32 → zS → Option (Int32 × zS)} (C : zOk d F RX11 cX11_next 5 2 45) (T : zRt d F none none (MW d h out.2)) (H214 : ∀ (x2 : Int32) (σ : zS), k214 x2 σ = some out → V l d F 0 0 (MW d h σ) [some (.ref (h 0)), none, some (.int x2), none, none] 214 []) (x2 : Int32) (y1 : Int32) (σ : zS) (hf : f_M_next_274 k214 x2 y1 σ = some out) : V l d F 0 0 (MW d h σ) [some (.ref (h 0)), none, some (.int x2), none, none] 274 [.int y1, .ref (h 0)] := by
  unfold f_M_next_274 at hf
  refine mp_0_38 (idx := 171) 277 C (by decide +kernel) rfl q_1029 hf (fun σ1 hf => ?_)
  refine zr_iinc (j := 1) 2 [some (.ref (h 0)), none, some (.int (x2 + 1)), none, none] 280 C (by decide +kernel) rfl rfl rfl (by decide) rfl rfl ?_
  refine zr_aload_n 0 281 C (by decide +kernel) rfl rfl ?_
  refine zr_dup 282 C (by decide +kernel) rfl rfl ?_
  refine mg_0_35 (idx := 162) 285 C (by decide +kernel) rfl q_1026 ?_
  refine zr_iconst (v := 1) 1 286 C (by decide +kernel) rfl rfl ?_
  refine zr_iadd 287 C (by decide +kernel) rfl ?_
  refine mp_0_35 (idx := 162) 290 C (by decide +kernel) rfl q_1026 hf (fun σ2 hf => ?_)
  refine zr_goto (off := -76) 214 C (by decide +kernel) (by decide) ?_
  exact H214 _ _ hf
def f_M_next_214b (k214 : Int32 → zS → Option (Int32 × zS)) (x2 : Int32) (σ : zS) : Option (Int32 × zS) :=
  (if (σ.1 20) ≤ (σ.1 35) then
  f_M_next_293 x2 σ
  else
  zin (σ.1 35) 160 (zbd (f_M_in (σ.2 14 (σ.1 35).toNatClampNeg) 48 57 σ) fun r2 σ1 =>
  (if r2 = 0 then
  f_M_next_293 x2 σ1
  else
  (if 4 ≤ x2 then
  f_M_next_274 k214 x2 0 σ1
  else
  zin (σ1.1 35) 160 (f_M_next_274 k214 x2 (((10 * (σ1.1 38)) + (σ1.2 14 (σ1.1 35).toNatClampNeg)) - 48) σ1)))))
set_option maxRecDepth 4000 in
theorem w_M_next_214b {l : Launch} {d : zD} {F : zF} {h : Nat → Nat} {out : Int32 × zS}  {k214 : Int32 → zS → Option (Int32 × zS)} (C : zOk d F RX11 cX11_next 5 2 45) (T : zRt d F none none (MW d h out.2)) (H214 : ∀ (x2 : Int32) (σ : zS), k214 x2 σ = some out → V l d F 0 0 (MW d h σ) [some (.ref (h 0)), none, some (.int x2), none, none] 214 []) (x2 : Int32) (σ : zS) (hf : f_M_next_214b k214 x2 σ = some out) : V l d F 0 0 (MW d h σ) [some (.ref (h 0)), none, some (.int x2), none, none] 214 [] := by
  unfold f_M_next_214b at hf
  refine zr_aload_n 0 215 C (by decide +kernel) rfl rfl ?_
  refine mg_0_35 (idx := 162) 218 C (by decide +kernel) rfl q_1026 ?_
  refine zr_aload_n 0 219 C (by decide +kernel) rfl rfl ?_
  refine mg_0_20 (idx := 157) 222 C (by decide +kernel) rfl q_1011 ?_
  refine zr_icmp_ge (off := 71) 293 225 C (by decide +kernel) (by decide) rfl hf (fun hf => ?_) (fun hf => ?_)
  · exact w_M_next_293 C T _ _ hf
  · refine zr_aload_n 0 226 C (by decide +kernel) rfl rfl ?_
    refine mg_0_19 (idx := 49) 229 C (by decide +kernel) rfl q_1010 ?_
    refine zr_aload_n 0 230 C (by decide +kernel) rfl rfl ?_
    refine mg_0_35 (idx := 162) 233 C (by decide +kernel) rfl q_1026 ?_
    refine ml_14 234 C (by decide +kernel) rfl hf (fun hf => ?_)
    refine zr_bipush (v := 48) 48 236 C (by decide +kernel) rfl rfl ?_
    refine zr_bipush (v := 57) 57 238 C (by decide +kernel) rfl rfl ?_
    refine k_M_in (idx := 139) 241 C (by decide +kernel) rfl q_1181 (zb2 rfl rfl) (Nat.le_of_ble_eq_true rfl) hf (fun r2 σ1 hf => ?_)
    refine zr_if_eq (off := 52) 293 244 C (by decide +kernel) (by decide) rfl hf (fun hf => ?_) (fun hf => ?_)
    · exact w_M_next_293 C T _ _ hf
    · refine zr_aload_n 0 245 C (by decide +kernel) rfl rfl ?_
      refine zr_iload_n 2 246 C (by decide +kernel) rfl rfl ?_
      refine zr_iconst (v := 4) 4 247 C (by decide +kernel) rfl rfl ?_
      refine zr_icmp_ge (off := 26) 273 250 C (by decide +kernel) (by decide) rfl hf (fun hf => ?_) (fun hf => ?_)
      · refine zr_iconst (v := 0) 0 274 C (by decide +kernel) rfl rfl ?_
        exact w_M_next_274 C T H214 _ _ _ hf
      · refine zr_bipush (v := 10) 10 252 C (by decide +kernel) rfl rfl ?_
        refine zr_aload_n 0 253 C (by decide +kernel) rfl rfl ?_
        refine mg_0_38 (idx := 171) 256 C (by decide +kernel) rfl q_1029 ?_
        refine zr_imul 257 C (by decide +kernel) rfl ?_
        refine zr_aload_n 0 258 C (by decide +kernel) rfl rfl ?_
        refine mg_0_19 (idx := 49) 261 C (by decide +kernel) rfl q_1010 ?_
        refine zr_aload_n 0 262 C (by decide +kernel) rfl rfl ?_
        refine mg_0_35 (idx := 162) 265 C (by decide +kernel) rfl q_1026 ?_
        refine ml_14 266 C (by decide +kernel) rfl hf (fun hf => ?_)
        refine zr_iadd 267 C (by decide +kernel) rfl ?_
        refine zr_bipush (v := 48) 48 269 C (by decide +kernel) rfl rfl ?_
        refine zr_isub 270 C (by decide +kernel) rfl ?_
        refine zr_goto (off := 4) 274 C (by decide +kernel) (by decide) ?_
        exact w_M_next_274 C T H214 _ _ _ hf
def f_M_next_214  : Nat → Int32 → zS → Option (Int32 × zS)
  | 0, _, _ => none
  | n + 1, x2,  σ => f_M_next_214b (fun x2 σ => f_M_next_214  n x2 σ) x2 σ
theorem w_M_next_214 {l : Launch} {d : zD} {F : zF} {h : Nat → Nat} {out : Int32 × zS}   (C : zOk d F RX11 cX11_next 5 2 45) (T : zRt d F none none (MW d h out.2))  : ∀ (n : Nat) (x2 : Int32) (σ : zS), f_M_next_214  n x2 σ = some out → V l d F 0 0 (MW d h σ) [some (.ref (h 0)), none, some (.int x2), none, none] 214 [] := by
  intro n
  induction n with
  | zero =>
    intro x2 σ hf
    cases hf
  | succ n ih =>
    intro x2 σ hf
    exact w_M_next_214b C T ih x2 σ hf
def f_M_next_195  (y1 : Int32) (σ : zS) : Option (Int32 × zS) :=
  zlt (zsg σ 38 y1) fun σ1 =>
  some (0, σ1)
set_option maxRecDepth 4000 in
theorem w_M_next_195 {l : Launch} {d : zD} {F : zF} {h : Nat → Nat} {out : Int32 × zS}   (C : zOk d F RX11 cX11_next 5 2 45) (T : zRt d F none none (MW d h out.2))  (y1 : Int32) (σ : zS) (hf : f_M_next_195  y1 σ = some out) : V l d F 0 0 (MW d h σ) [none, none, none, none, none] 195 [.int y1, .ref (h 0)] := by
  unfold f_M_next_195 at hf
  refine mp_0_38 (idx := 171) 198 C (by decide +kernel) rfl q_1029 hf (fun σ1 hf => ?_)
  refine zr_goto (off := 189) 387 C (by decide +kernel) (by decide) ?_
  obtain rfl := Option.some.inj hf
  exact zr_vret C (by decide +kernel) T
def f_M_next_176  (x4 : Int32) (y1 : Int32) (σ : zS) : Option (Int32 × zS) :=
  zlt (zsg σ 37 y1) fun σ1 =>
  (if 2 ≤ x4 then
  f_M_next_195 (x4 - 2) σ1
  else
  f_M_next_195 x4 σ1)
set_option maxRecDepth 4000 in
theorem w_M_next_176 {l : Launch} {d : zD} {F : zF} {h : Nat → Nat} {out : Int32 × zS}   (C : zOk d F RX11 cX11_next 5 2 45) (T : zRt d F none none (MW d h out.2))  (x4 : Int32) (y1 : Int32) (σ : zS) (hf : f_M_next_176  x4 y1 σ = some out) : V l d F 0 0 (MW d h σ) [some (.ref (h 0)), none, none, none, some (.int x4)] 176 [.int y1, .ref (h 0)] := by
  unfold f_M_next_176 at hf
  refine mp_0_37 (idx := 168) 179 C (by decide +kernel) rfl q_1028 hf (fun σ1 hf => ?_)
  refine zr_aload_n 0 180 C (by decide +kernel) rfl rfl ?_
  refine zr_iload 4 182 C (by decide +kernel) rfl rfl ?_
  refine zr_iconst (v := 2) 2 183 C (by decide +kernel) rfl rfl ?_
  refine zr_icmp_ge (off := 8) 191 186 C (by decide +kernel) (by decide) rfl hf (fun hf => ?_) (fun hf => ?_)
  · refine zr_iload 4 193 C (by decide +kernel) rfl rfl ?_
    refine zr_iconst (v := 2) 2 194 C (by decide +kernel) rfl rfl ?_
    refine zr_isub 195 C (by decide +kernel) rfl ?_
    refine zr_less (zN (zN (zN (zN (zN zE))))) ?_
    exact w_M_next_195 C T _ _ hf
  · refine zr_iload 4 188 C (by decide +kernel) rfl rfl ?_
    refine zr_goto (off := 7) 195 C (by decide +kernel) (by decide) ?_
    refine zr_less (zN (zN (zN (zN (zN zE))))) ?_
    exact w_M_next_195 C T _ _ hf
def f_M_next_136  (x4 : Int32) (σ : zS) : Option (Int32 × zS) :=
  (if 2 ≤ x4 then
  (if 8 ≤ x4 then
  (if x4 = 11 then
  f_M_next_176 x4 (-1) σ
  else
  f_M_next_176 x4 ((4 + x4) - 8) σ)
  else
  f_M_next_176 x4 2 σ)
  else
  f_M_next_176 x4 3 σ)
set_option maxRecDepth 4000 in
theorem w_M_next_136 {l : Launch} {d : zD} {F : zF} {h : Nat → Nat} {out : Int32 × zS}   (C : zOk d F RX11 cX11_next 5 2 45) (T : zRt d F none none (MW d h out.2))  (x4 : Int32) (σ : zS) (hf : f_M_next_136  x4 σ = some out) : V l d F 0 0 (MW d h σ) [some (.ref (h 0)), none, none, none, some (.int x4)] 136 [] := by
  unfold f_M_next_136 at hf
  refine zr_aload_n 0 137 C (by decide +kernel) rfl rfl ?_
  refine zr_iload 4 139 C (by decide +kernel) rfl rfl ?_
  refine zr_iconst (v := 2) 2 140 C (by decide +kernel) rfl rfl ?_
  refine zr_icmp_ge (off := 7) 147 143 C (by decide +kernel) (by decide) rfl hf (fun hf => ?_) (fun hf => ?_)
  · refine zr_iload 4 149 C (by decide +kernel) rfl rfl ?_
    refine zr_bipush (v := 8) 8 151 C (by decide +kernel) rfl rfl ?_
    refine zr_icmp_ge (off := 7) 158 154 C (by decide +kernel) (by decide) rfl hf (fun hf => ?_) (fun hf => ?_)
    · refine zr_iload 4 160 C (by decide +kernel) rfl rfl ?_
      refine zr_bipush (v := 11) 11 162 C (by decide +kernel) rfl rfl ?_
      refine zr_icmp_ne (off := 7) 169 165 C (by decide +kernel) (by decide) rfl hf (fun hf => ?_) (fun hf => ?_)
      · refine zr_iconst (v := 4) 4 170 C (by decide +kernel) rfl rfl ?_
        refine zr_iload 4 172 C (by decide +kernel) rfl rfl ?_
        refine zr_iadd 173 C (by decide +kernel) rfl ?_
        refine zr_bipush (v := 8) 8 175 C (by decide +kernel) rfl rfl ?_
        refine zr_isub 176 C (by decide +kernel) rfl ?_
        exact w_M_next_176 C T _ _ _ hf
      · refine zr_iconst (v := (-1)) (-1) 166 C (by decide +kernel) rfl rfl ?_
        refine zr_goto (off := 10) 176 C (by decide +kernel) (by decide) ?_
        exact w_M_next_176 C T _ _ _ hf
    · refine zr_iconst (v := 2) 2 155 C (by decide +kernel) rfl rfl ?_
      refine zr_goto (off := 21) 176 C (by decide +kernel) (by decide) ?_
      exact w_M_next_176 C T _ _ _ hf
  · refine zr_iconst (v := 3) 3 144 C (by decide +kernel) rfl rfl ?_
    refine zr_goto (off := 32) 176 C (by decide +kernel) (by decide) ?_
    exact w_M_next_176 C T _ _ _ hf
def f_M_next_111b (k111 : Int64 → Int32 → zS → Option (Int32 × zS)) (x2 : Int64) (x4 : Int32) (σ : zS) : Option (Int32 × zS) :=
  (if 11 ≤ x4 then
  f_M_next_136 x4 σ
  else
  zin x4 11 ((if (zWords x4.toNatClampNeg) = x2 then
  f_M_next_136 x4 σ
  else
  k111 x2 (x4 + 1) σ)))
set_option maxRecDepth 4000 in
theorem w_M_next_111b {l : Launch} {d : zD} {F : zF} {h : Nat → Nat} {out : Int32 × zS}  {k111 : Int64 → Int32 → zS → Option (Int32 × zS)} (C : zOk d F RX11 cX11_next 5 2 45) (T : zRt d F none none (MW d h out.2)) (H111 : ∀ (x2 : Int64) (x4 : Int32) (σ : zS), k111 x2 x4 σ = some out → V l d F 0 0 (MW d h σ) [some (.ref (h 0)), none, some (.long x2), none, some (.int x4)] 111 []) (x2 : Int64) (x4 : Int32) (σ : zS) (hf : f_M_next_111b k111 x2 x4 σ = some out) : V l d F 0 0 (MW d h σ) [some (.ref (h 0)), none, some (.long x2), none, some (.int x4)] 111 [] := by
  unfold f_M_next_111b at hf
  refine zr_iload 4 113 C (by decide +kernel) rfl rfl ?_
  refine zr_bipush (v := 11) 11 115 C (by decide +kernel) rfl rfl ?_
  refine zr_icmp_ge (off := 21) 136 118 C (by decide +kernel) (by decide) rfl hf (fun hf => ?_) (fun hf => ?_)
  · refine zr_less (zA (zN (zN (zN (zA zE))))) ?_
    exact w_M_next_136 C T _ _ hf
  · refine zr_aload_n 0 119 C (by decide +kernel) rfl rfl ?_
    refine mg_0_39 (idx := 99) 122 C (by decide +kernel) rfl q_1030 ?_
    refine zr_iload 4 124 C (by decide +kernel) rfl rfl ?_
    refine ml_22 125 C (by decide +kernel) rfl hf (fun hf => ?_)
    refine zr_lload_n 2 126 C (by decide +kernel) rfl rfl ?_
    refine zr_lcmp_eq (off := 9) 136 127 130 C (by decide +kernel) rfl (by decide +kernel) (by decide) rfl hf (fun hf => ?_) (fun hf => ?_)
    · refine zr_less (zA (zN (zN (zN (zA zE))))) ?_
      exact w_M_next_136 C T _ _ hf
    · refine zr_iinc (j := 1) 4 [some (.ref (h 0)), none, some (.long x2), none, some (.int (x4 + 1))] 133 C (by decide +kernel) rfl rfl rfl (by decide) rfl rfl ?_
      refine zr_goto (off := -22) 111 C (by decide +kernel) (by decide) ?_
      exact H111 _ _ _ hf
def f_M_next_111  : Nat → Int64 → Int32 → zS → Option (Int32 × zS)
  | 0, _, _, _ => none
  | n + 1, x2, x4,  σ => f_M_next_111b (fun x2 x4 σ => f_M_next_111  n x2 x4 σ) x2 x4 σ
theorem w_M_next_111 {l : Launch} {d : zD} {F : zF} {h : Nat → Nat} {out : Int32 × zS}   (C : zOk d F RX11 cX11_next 5 2 45) (T : zRt d F none none (MW d h out.2))  : ∀ (n : Nat) (x2 : Int64) (x4 : Int32) (σ : zS), f_M_next_111  n x2 x4 σ = some out → V l d F 0 0 (MW d h σ) [some (.ref (h 0)), none, some (.long x2), none, some (.int x4)] 111 [] := by
  intro n
  induction n with
  | zero =>
    intro x2 x4 σ hf
    cases hf
  | succ n ih =>
    intro x2 x4 σ hf
    exact w_M_next_111b C T ih x2 x4 σ hf
def f_M_next_52   (σ : zS) : Option (Int32 × zS) :=
  zlt (zsg σ 36 (σ.1 35)) fun σ1 =>
  zlt (zsg σ1 37 0) fun σ2 =>
  zlt (zsg σ2 38 0) fun σ3 =>
  (if (σ3.1 35) = (σ3.1 20) then
  some (0, σ3)
  else
  zin (σ3.1 35) 160 (zlt (σ3.2 14 (σ3.1 35).toNatClampNeg) fun v4 => 
  zbd (f_M_in v4 97 122 σ3) fun r6 σ5 =>
  (if r6 = 0 then
  zbd (f_M_in v4 48 57 σ5) fun r8 σ7 =>
  (if r8 = 0 then
  (if v4 = 40 then
  f_M_next_358 v4 σ7
  else
  (if v4 = 41 then
  f_M_next_358 v4 σ7
  else
  (if v4 = 59 then
  f_M_next_358 v4 σ7
  else
  (if v4 = 43 then
  f_M_next_358 v4 σ7
  else
  (if v4 = 45 then
  f_M_next_358 v4 σ7
  else
  (if v4 = 42 then
  f_M_next_358 v4 σ7
  else
  (if v4 = 60 then
  f_M_next_358 v4 σ7
  else
  (if v4 = 61 then
  f_M_next_358 v4 σ7
  else
  f_M_next_363 v4 0 σ7))))))))
  else
  f_M_next_214 zfu 0 σ7)
  else
  zbd (f_M_letters  σ5) fun r10 σ9 =>
  f_M_next_111 zfu r10 0 σ9)))
set_option maxRecDepth 4000 in
theorem w_M_next_52 {l : Launch} {d : zD} {F : zF} {h : Nat → Nat} {out : Int32 × zS}   (C : zOk d F RX11 cX11_next 5 2 45) (T : zRt d F none none (MW d h out.2))   (σ : zS) (hf : f_M_next_52   σ = some out) : V l d F 0 0 (MW d h σ) [some (.ref (h 0)), none, none, none, none] 52 [] := by
  unfold f_M_next_52 at hf
  refine zr_aload_n 0 53 C (by decide +kernel) rfl rfl ?_
  refine zr_aload_n 0 54 C (by decide +kernel) rfl rfl ?_
  refine mg_0_35 (idx := 162) 57 C (by decide +kernel) rfl q_1026 ?_
  refine mp_0_36 (idx := 165) 60 C (by decide +kernel) rfl q_1027 hf (fun σ1 hf => ?_)
  refine zr_aload_n 0 61 C (by decide +kernel) rfl rfl ?_
  refine zr_iconst (v := 0) 0 62 C (by decide +kernel) rfl rfl ?_
  refine mp_0_37 (idx := 168) 65 C (by decide +kernel) rfl q_1028 hf (fun σ2 hf => ?_)
  refine zr_aload_n 0 66 C (by decide +kernel) rfl rfl ?_
  refine zr_iconst (v := 0) 0 67 C (by decide +kernel) rfl rfl ?_
  refine mp_0_38 (idx := 171) 70 C (by decide +kernel) rfl q_1029 hf (fun σ3 hf => ?_)
  refine zr_aload_n 0 71 C (by decide +kernel) rfl rfl ?_
  refine mg_0_35 (idx := 162) 74 C (by decide +kernel) rfl q_1026 ?_
  refine zr_aload_n 0 75 C (by decide +kernel) rfl rfl ?_
  refine mg_0_20 (idx := 157) 78 C (by decide +kernel) rfl q_1011 ?_
  refine zr_icmp_ne (off := 4) 82 81 C (by decide +kernel) (by decide) rfl hf (fun hf => ?_) (fun hf => ?_)
  · refine zr_aload_n 0 83 C (by decide +kernel) rfl rfl ?_
    refine mg_0_19 (idx := 49) 86 C (by decide +kernel) rfl q_1010 ?_
    refine zr_aload_n 0 87 C (by decide +kernel) rfl rfl ?_
    refine mg_0_35 (idx := 162) 90 C (by decide +kernel) rfl q_1026 ?_
    refine ml_14 91 C (by decide +kernel) rfl hf (fun hf => ?_)
    refine zr_name hf (fun v4 hf => ?_)
    refine zr_istore_n 1 [some (.ref (h 0)), some (.int v4), none, none, none] 92 C (by decide +kernel) rfl (by decide) rfl rfl ?_
    refine zr_iload_n 1 93 C (by decide +kernel) rfl rfl ?_
    refine zr_bipush (v := 97) 97 95 C (by decide +kernel) rfl rfl ?_
    refine zr_bipush (v := 122) 122 97 C (by decide +kernel) rfl rfl ?_
    refine k_M_in (idx := 139) 100 C (by decide +kernel) rfl q_1181 (zb2 rfl rfl) (Nat.le_of_ble_eq_true rfl) hf (fun r6 σ5 hf => ?_)
    refine zr_if_eq (off := 101) 201 103 C (by decide +kernel) (by decide) rfl hf (fun hf => ?_) (fun hf => ?_)
    · refine zr_iload_n 1 202 C (by decide +kernel) rfl rfl ?_
      refine zr_bipush (v := 48) 48 204 C (by decide +kernel) rfl rfl ?_
      refine zr_bipush (v := 57) 57 206 C (by decide +kernel) rfl rfl ?_
      refine k_M_in (idx := 139) 209 C (by decide +kernel) rfl q_1181 (zb2 rfl rfl) (Nat.le_of_ble_eq_true rfl) hf (fun r8 σ7 hf => ?_)
      refine zr_if_eq (off := 101) 310 212 C (by decide +kernel) (by decide) rfl hf (fun hf => ?_) (fun hf => ?_)
      · refine zr_iload_n 1 311 C (by decide +kernel) rfl rfl ?_
        refine zr_bipush (v := 40) 40 313 C (by decide +kernel) rfl rfl ?_
        refine zr_icmp_eq (off := 45) 358 316 C (by decide +kernel) (by decide) rfl hf (fun hf => ?_) (fun hf => ?_)
        · exact w_M_next_358 C T _ _ hf
        · refine zr_iload_n 1 317 C (by decide +kernel) rfl rfl ?_
          refine zr_bipush (v := 41) 41 319 C (by decide +kernel) rfl rfl ?_
          refine zr_icmp_eq (off := 39) 358 322 C (by decide +kernel) (by decide) rfl hf (fun hf => ?_) (fun hf => ?_)
          · exact w_M_next_358 C T _ _ hf
          · refine zr_iload_n 1 323 C (by decide +kernel) rfl rfl ?_
            refine zr_bipush (v := 59) 59 325 C (by decide +kernel) rfl rfl ?_
            refine zr_icmp_eq (off := 33) 358 328 C (by decide +kernel) (by decide) rfl hf (fun hf => ?_) (fun hf => ?_)
            · exact w_M_next_358 C T _ _ hf
            · refine zr_iload_n 1 329 C (by decide +kernel) rfl rfl ?_
              refine zr_bipush (v := 43) 43 331 C (by decide +kernel) rfl rfl ?_
              refine zr_icmp_eq (off := 27) 358 334 C (by decide +kernel) (by decide) rfl hf (fun hf => ?_) (fun hf => ?_)
              · exact w_M_next_358 C T _ _ hf
              · refine zr_iload_n 1 335 C (by decide +kernel) rfl rfl ?_
                refine zr_bipush (v := 45) 45 337 C (by decide +kernel) rfl rfl ?_
                refine zr_icmp_eq (off := 21) 358 340 C (by decide +kernel) (by decide) rfl hf (fun hf => ?_) (fun hf => ?_)
                · exact w_M_next_358 C T _ _ hf
                · refine zr_iload_n 1 341 C (by decide +kernel) rfl rfl ?_
                  refine zr_bipush (v := 42) 42 343 C (by decide +kernel) rfl rfl ?_
                  refine zr_icmp_eq (off := 15) 358 346 C (by decide +kernel) (by decide) rfl hf (fun hf => ?_) (fun hf => ?_)
                  · exact w_M_next_358 C T _ _ hf
                  · refine zr_iload_n 1 347 C (by decide +kernel) rfl rfl ?_
                    refine zr_bipush (v := 60) 60 349 C (by decide +kernel) rfl rfl ?_
                    refine zr_icmp_eq (off := 9) 358 352 C (by decide +kernel) (by decide) rfl hf (fun hf => ?_) (fun hf => ?_)
                    · exact w_M_next_358 C T _ _ hf
                    · refine zr_iload_n 1 353 C (by decide +kernel) rfl rfl ?_
                      refine zr_bipush (v := 61) 61 355 C (by decide +kernel) rfl rfl ?_
                      refine zr_icmp_ne (off := 7) 362 358 C (by decide +kernel) (by decide) rfl hf (fun hf => ?_) (fun hf => ?_)
                      · refine zr_iconst (v := 0) 0 363 C (by decide +kernel) rfl rfl ?_
                        exact w_M_next_363 C T _ _ _ hf
                      · exact w_M_next_358 C T _ _ hf
      · refine zr_iconst (v := 0) 0 213 C (by decide +kernel) rfl rfl ?_
        refine zr_istore_n 2 [some (.ref (h 0)), some (.int v4), some (.int 0), none, none] 214 C (by decide +kernel) rfl (by decide) rfl rfl ?_
        refine zr_less (zA (zN (zA (zN (zN zE))))) ?_
        exact w_M_next_214 C T zfu _ _ hf
    · refine zr_aload_n 0 104 C (by decide +kernel) rfl rfl ?_
      refine k_M_letters (idx := 174) 107 C (by decide +kernel) rfl q_1205 (zb2 rfl rfl) (Nat.le_of_ble_eq_true rfl) hf (fun r10 σ9 hf => ?_)
      refine zr_lstore_n 2 [some (.ref (h 0)), some (.int v4), some (.long r10), none, none] 108 C (by decide +kernel) rfl (by decide) rfl rfl ?_
      refine zr_iconst (v := 0) 0 109 C (by decide +kernel) rfl rfl ?_
      refine zr_istore 4 [some (.ref (h 0)), some (.int v4), some (.long r10), none, some (.int 0)] 111 C (by decide +kernel) rfl (by decide) rfl rfl ?_
      refine zr_less (zA (zN (zA (zN (zA zE))))) ?_
      exact w_M_next_111 C T zfu _ _ _ hf
  · obtain rfl := Option.some.inj hf
    exact zr_vret C (by decide +kernel) T
def f_M_next_39 (k0 : zS → Option (Int32 × zS))  (σ : zS) : Option (Int32 × zS) :=
  zlt (zsg σ 35 ((σ.1 35) + 1)) fun σ1 =>
  k0 σ1
set_option maxRecDepth 4000 in
theorem w_M_next_39 {l : Launch} {d : zD} {F : zF} {h : Nat → Nat} {out : Int32 × zS}  {k0 : zS → Option (Int32 × zS)} (C : zOk d F RX11 cX11_next 5 2 45) (T : zRt d F none none (MW d h out.2)) (H0 : ∀  (σ : zS), k0  σ = some out → V l d F 0 0 (MW d h σ) [some (.ref (h 0)), none, none, none, none] 0 [])  (σ : zS) (hf : f_M_next_39 k0  σ = some out) : V l d F 0 0 (MW d h σ) [some (.ref (h 0)), none, none, none, none] 39 [] := by
  unfold f_M_next_39 at hf
  refine zr_aload_n 0 40 C (by decide +kernel) rfl rfl ?_
  refine zr_dup 41 C (by decide +kernel) rfl rfl ?_
  refine mg_0_35 (idx := 162) 44 C (by decide +kernel) rfl q_1026 ?_
  refine zr_iconst (v := 1) 1 45 C (by decide +kernel) rfl rfl ?_
  refine zr_iadd 46 C (by decide +kernel) rfl ?_
  refine mp_0_35 (idx := 162) 49 C (by decide +kernel) rfl q_1026 hf (fun σ1 hf => ?_)
  refine zr_goto (off := -49) 0 C (by decide +kernel) (by decide) ?_
  exact H0 _ hf
def f_M_next_0b (k0 : zS → Option (Int32 × zS))  (σ : zS) : Option (Int32 × zS) :=
  (if (σ.1 20) ≤ (σ.1 35) then
  f_M_next_52 σ
  else
  zin (σ.1 35) 160 ((if (σ.2 14 (σ.1 35).toNatClampNeg) = 32 then
  f_M_next_39 k0 σ
  else
  zin (σ.1 35) 160 ((if (σ.2 14 (σ.1 35).toNatClampNeg) = 10 then
  f_M_next_39 k0 σ
  else
  f_M_next_52 σ)))))
set_option maxRecDepth 4000 in
theorem w_M_next_0b {l : Launch} {d : zD} {F : zF} {h : Nat → Nat} {out : Int32 × zS}  {k0 : zS → Option (Int32 × zS)} (C : zOk d F RX11 cX11_next 5 2 45) (T : zRt d F none none (MW d h out.2)) (H0 : ∀  (σ : zS), k0  σ = some out → V l d F 0 0 (MW d h σ) [some (.ref (h 0)), none, none, none, none] 0 [])  (σ : zS) (hf : f_M_next_0b k0  σ = some out) : V l d F 0 0 (MW d h σ) [some (.ref (h 0)), none, none, none, none] 0 [] := by
  unfold f_M_next_0b at hf
  refine zr_aload_n 0 1 C (by decide +kernel) rfl rfl ?_
  refine mg_0_35 (idx := 162) 4 C (by decide +kernel) rfl q_1026 ?_
  refine zr_aload_n 0 5 C (by decide +kernel) rfl rfl ?_
  refine mg_0_20 (idx := 157) 8 C (by decide +kernel) rfl q_1011 ?_
  refine zr_icmp_ge (off := 44) 52 11 C (by decide +kernel) (by decide) rfl hf (fun hf => ?_) (fun hf => ?_)
  · exact w_M_next_52 C T _ hf
  · refine zr_aload_n 0 12 C (by decide +kernel) rfl rfl ?_
    refine mg_0_19 (idx := 49) 15 C (by decide +kernel) rfl q_1010 ?_
    refine zr_aload_n 0 16 C (by decide +kernel) rfl rfl ?_
    refine mg_0_35 (idx := 162) 19 C (by decide +kernel) rfl q_1026 ?_
    refine ml_14 20 C (by decide +kernel) rfl hf (fun hf => ?_)
    refine zr_bipush (v := 32) 32 22 C (by decide +kernel) rfl rfl ?_
    refine zr_icmp_eq (off := 17) 39 25 C (by decide +kernel) (by decide) rfl hf (fun hf => ?_) (fun hf => ?_)
    · exact w_M_next_39 C T H0 _ hf
    · refine zr_aload_n 0 26 C (by decide +kernel) rfl rfl ?_
      refine mg_0_19 (idx := 49) 29 C (by decide +kernel) rfl q_1010 ?_
      refine zr_aload_n 0 30 C (by decide +kernel) rfl rfl ?_
      refine mg_0_35 (idx := 162) 33 C (by decide +kernel) rfl q_1026 ?_
      refine ml_14 34 C (by decide +kernel) rfl hf (fun hf => ?_)
      refine zr_bipush (v := 10) 10 36 C (by decide +kernel) rfl rfl ?_
      refine zr_icmp_ne (off := 16) 52 39 C (by decide +kernel) (by decide) rfl hf (fun hf => ?_) (fun hf => ?_)
      · exact w_M_next_52 C T _ hf
      · exact w_M_next_39 C T H0 _ hf
def f_M_next_0  : Nat → zS → Option (Int32 × zS)
  | 0, _ => none
  | n + 1,  σ => f_M_next_0b (fun  σ => f_M_next_0  n  σ)  σ
theorem w_M_next_0 {l : Launch} {d : zD} {F : zF} {h : Nat → Nat} {out : Int32 × zS}   (C : zOk d F RX11 cX11_next 5 2 45) (T : zRt d F none none (MW d h out.2))  : ∀ (n : Nat)  (σ : zS), f_M_next_0  n  σ = some out → V l d F 0 0 (MW d h σ) [some (.ref (h 0)), none, none, none, none] 0 [] := by
  intro n
  induction n with
  | zero =>
    intro  σ hf
    cases hf
  | succ n ih =>
    intro  σ hf
    exact w_M_next_0b C T ih  σ hf
def f_M_next  (σ : zS) : Option (Int32 × zS) :=
  f_M_next_0 zfu σ
set_option maxRecDepth 4000 in
theorem m_M_next {l : Launch} {d : zD} {h : Nat → Nat} {out : Int32 × zS} {σ : zS}  (hf : f_M_next  σ = some out) : zM l yX11_next cX11_next 5 none 2 45 d [.ref (h 0)] (MW d h σ) (MW d h out.2) none := by
  refine zM_of [some (.ref (h 0)), none, none, none, none] (by decide +kernel) rfl (Nat.le_of_ble_eq_true rfl) (fun F C T => ?_)
  unfold f_M_next at hf
  exact w_M_next_0 C T zfu _ hf
theorem y_M_next : zY yX11_next cX11_next 5 none 0 := ⟨q_1204, q_90, by decide +kernel, by decide +kernel, by decide +kernel⟩
theorem k_M_next {l : Launch} {d : zD} {F : zF} {h : Nat → Nat} {σ : zS} {lv : List (Option Value)} {pc : Nat} {own : String} {cc : ByteArray} {nL fr lo idx : Nat} {rest : List Value} {β : Type} {kf : Int32 → zS → Option β} {o2 : β}   (pc' : Nat) (C : zOk d F own cc nL fr lo) (hd : decode cc pc = .ok (.invokevirtual idx, 3)) (hp : pc + 3 = pc') (hq : Cond.methodLink own idx yX11_next ∈ zW) (hm : 2 + 1 ≤ fr ∧ 8 + (5 + 11) + 45 ≤ lo) (hr : (rest.map fun v => v.category).sum ≤ 8) (hf : zbd (f_M_next  σ) kf = some o2) (K : ∀ (r : Int32) (σ' : zS), kf r σ' = some o2 → V l d F 0 0 (MW d h σ') lv pc' (rest)) : V l d F 0 0 (MW d h σ) lv pc (.ref (h 0) :: rest) := by
  obtain ⟨q, h1, h2⟩ := zbd_some hf
  exact zr_callV y_M_next ⟨q_1203, q_38⟩ 0 rfl rfl (As := []) (m_M_next h1) rfl rfl pc' C hd hp hq hm hr (K _ _ h2)
/-! StepsBeyondModel.rank(I)I -/
def f_M_rank (p0 : Int32) (σ : zS) : Option (Int32 × zS) :=
  (if p0 = 0 then
  some (0, σ)
  else
  (if p0 = 11 then
  some (1, σ)
  else
  (if p0 = 12 then
  some (2, σ)
  else
  (if p0 = 13 then
  some (3, σ)
  else
  (if 15 < p0 then
  (if 17 < p0 then
  (if p0 = 18 then
  some (6, σ)
  else
  some (7, σ))
  else
  some (5, σ))
  else
  some (4, σ))))))
set_option maxRecDepth 4000 in
theorem m_M_rank {l : Launch} {d : zD} {h : Nat → Nat} {out : Int32 × zS} {σ : zS} {p0 : Int32} (hf : f_M_rank p0 σ = some out) : zM l yX11_rank cX11_rank 1 (some .int) 0 0 d [.int p0] (MW d h σ) (MW d h out.2) (some (.int out.1)) := by
  refine zM_of [some (.int p0)] (by decide +kernel) rfl (Nat.le_of_ble_eq_true rfl) (fun F C T => ?_)
  unfold f_M_rank at hf
  refine zr_iload_n 0 1 C (by decide +kernel) rfl rfl ?_
  refine zr_if_ne (off := 7) 8 4 C (by decide +kernel) (by decide) rfl hf (fun hf => ?_) (fun hf => ?_)
  · refine zr_iload_n 0 9 C (by decide +kernel) rfl rfl ?_
    refine zr_bipush (v := 11) 11 11 C (by decide +kernel) rfl rfl ?_
    refine zr_icmp_ne (off := 7) 18 14 C (by decide +kernel) (by decide) rfl hf (fun hf => ?_) (fun hf => ?_)
    · refine zr_iload_n 0 19 C (by decide +kernel) rfl rfl ?_
      refine zr_bipush (v := 12) 12 21 C (by decide +kernel) rfl rfl ?_
      refine zr_icmp_ne (off := 7) 28 24 C (by decide +kernel) (by decide) rfl hf (fun hf => ?_) (fun hf => ?_)
      · refine zr_iload_n 0 29 C (by decide +kernel) rfl rfl ?_
        refine zr_bipush (v := 13) 13 31 C (by decide +kernel) rfl rfl ?_
        refine zr_icmp_ne (off := 7) 38 34 C (by decide +kernel) (by decide) rfl hf (fun hf => ?_) (fun hf => ?_)
        · refine zr_iload_n 0 39 C (by decide +kernel) rfl rfl ?_
          refine zr_bipush (v := 15) 15 41 C (by decide +kernel) rfl rfl ?_
          refine zr_icmp_gt (off := 7) 48 44 C (by decide +kernel) (by decide) rfl hf (fun hf => ?_) (fun hf => ?_)
          · refine zr_iload_n 0 49 C (by decide +kernel) rfl rfl ?_
            refine zr_bipush (v := 17) 17 51 C (by decide +kernel) rfl rfl ?_
            refine zr_icmp_gt (off := 7) 58 54 C (by decide +kernel) (by decide) rfl hf (fun hf => ?_) (fun hf => ?_)
            · refine zr_iload_n 0 59 C (by decide +kernel) rfl rfl ?_
              refine zr_bipush (v := 18) 18 61 C (by decide +kernel) rfl rfl ?_
              refine zr_icmp_ne (off := 8) 69 64 C (by decide +kernel) (by decide) rfl hf (fun hf => ?_) (fun hf => ?_)
              · refine zr_bipush (v := 7) 7 71 C (by decide +kernel) rfl rfl ?_
                obtain rfl := Option.some.inj hf
                exact zr_iret C (by decide +kernel) T
              · refine zr_bipush (v := 6) 6 66 C (by decide +kernel) rfl rfl ?_
                refine zr_goto (off := 5) 71 C (by decide +kernel) (by decide) ?_
                obtain rfl := Option.some.inj hf
                exact zr_iret C (by decide +kernel) T
            · refine zr_iconst (v := 5) 5 55 C (by decide +kernel) rfl rfl ?_
              refine zr_goto (off := 16) 71 C (by decide +kernel) (by decide) ?_
              obtain rfl := Option.some.inj hf
              exact zr_iret C (by decide +kernel) T
          · refine zr_iconst (v := 4) 4 45 C (by decide +kernel) rfl rfl ?_
            refine zr_goto (off := 26) 71 C (by decide +kernel) (by decide) ?_
            obtain rfl := Option.some.inj hf
            exact zr_iret C (by decide +kernel) T
        · refine zr_iconst (v := 3) 3 35 C (by decide +kernel) rfl rfl ?_
          refine zr_goto (off := 36) 71 C (by decide +kernel) (by decide) ?_
          obtain rfl := Option.some.inj hf
          exact zr_iret C (by decide +kernel) T
      · refine zr_iconst (v := 2) 2 25 C (by decide +kernel) rfl rfl ?_
        refine zr_goto (off := 46) 71 C (by decide +kernel) (by decide) ?_
        obtain rfl := Option.some.inj hf
        exact zr_iret C (by decide +kernel) T
    · refine zr_iconst (v := 1) 1 15 C (by decide +kernel) rfl rfl ?_
      refine zr_goto (off := 56) 71 C (by decide +kernel) (by decide) ?_
      obtain rfl := Option.some.inj hf
      exact zr_iret C (by decide +kernel) T
  · refine zr_iconst (v := 0) 0 5 C (by decide +kernel) rfl rfl ?_
    refine zr_goto (off := 66) 71 C (by decide +kernel) (by decide) ?_
    obtain rfl := Option.some.inj hf
    exact zr_iret C (by decide +kernel) T
theorem y_M_rank : zY yX11_rank cX11_rank 1 (some .int) 1 := ⟨q_1224, q_90, by decide +kernel, by decide +kernel, by decide +kernel⟩
theorem k_M_rank {l : Launch} {d : zD} {F : zF} {h : Nat → Nat} {σ : zS} {lv : List (Option Value)} {pc : Nat} {own : String} {cc : ByteArray} {nL fr lo idx : Nat} {rest : List Value} {β : Type} {kf : Int32 → zS → Option β} {o2 : β}  {p0 : Int32} (pc' : Nat) (C : zOk d F own cc nL fr lo) (hd : decode cc pc = .ok (.invokestatic idx, 3)) (hp : pc + 3 = pc') (hq : Cond.methodLink own idx yX11_rank ∈ zW) (hm : 0 + 1 ≤ fr ∧ 8 + (1 + 11) + 0 ≤ lo) (hr : (rest.map fun v => v.category).sum ≤ 8) (hf : zbd (f_M_rank p0 σ) kf = some o2) (K : ∀ (r : Int32) (σ' : zS), kf r σ' = some o2 → V l d F 0 0 (MW d h σ') lv pc' (.int r :: rest)) : V l d F 0 0 (MW d h σ) lv pc (.int p0 :: rest) := by
  obtain ⟨q, h1, h2⟩ := zbd_some hf
  exact zr_callS y_M_rank q_1223 (As := [.int p0]) (m_M_rank h1) rfl rfl pc' C hd hp hq hm hr (K _ _ h2)
/-! StepsBeyondModel.puts(I)V -/
def f_M_puts (p1 : Int32) (σ : zS) : Option (Int32 × zS) :=
  zin ((200 * (σ.1 23)) + (σ.1 43)) 1200 (zlt (zsa σ 15 ((200 * (σ.1 23)) + (σ.1 43)) p1) fun σ1 =>
  zlt (zsg σ1 43 ((σ1.1 43) + 1)) fun σ2 =>
  some (0, σ2))
set_option maxRecDepth 4000 in
theorem m_M_puts {l : Launch} {d : zD} {h : Nat → Nat} {out : Int32 × zS} {σ : zS} {p1 : Int32} (hf : f_M_puts p1 σ = some out) : zM l yX11_puts cX11_puts 2 none 0 0 d [.ref (h 0), .int p1] (MW d h σ) (MW d h out.2) none := by
  refine zM_of [some (.ref (h 0)), some (.int p1)] (by decide +kernel) rfl (Nat.le_of_ble_eq_true rfl) (fun F C T => ?_)
  unfold f_M_puts at hf
  refine zr_aload_n 0 1 C (by decide +kernel) rfl rfl ?_
  refine mg_0_21 (idx := 52) 4 C (by decide +kernel) rfl q_1012 ?_
  refine zr_sipush (v := 200) 200 7 C (by decide +kernel) rfl rfl ?_
  refine zr_aload_n 0 8 C (by decide +kernel) rfl rfl ?_
  refine mg_0_23 (idx := 58) 11 C (by decide +kernel) rfl q_1014 ?_
  refine zr_imul 12 C (by decide +kernel) rfl ?_
  refine zr_aload_n 0 13 C (by decide +kernel) rfl rfl ?_
  refine mg_0_43 (idx := 178) 16 C (by decide +kernel) rfl q_1034 ?_
  refine zr_iadd 17 C (by decide +kernel) rfl ?_
  refine zr_iload_n 1 18 C (by decide +kernel) rfl rfl ?_
  refine ms_15 19 C (by decide +kernel) rfl hf (fun σ1 hf => ?_)
  refine zr_aload_n 0 20 C (by decide +kernel) rfl rfl ?_
  refine zr_dup 21 C (by decide +kernel) rfl rfl ?_
  refine mg_0_43 (idx := 178) 24 C (by decide +kernel) rfl q_1034 ?_
  refine zr_iconst (v := 1) 1 25 C (by decide +kernel) rfl rfl ?_
  refine zr_iadd 26 C (by decide +kernel) rfl ?_
  refine mp_0_43 (idx := 178) 29 C (by decide +kernel) rfl q_1034 hf (fun σ2 hf => ?_)
  obtain rfl := Option.some.inj hf
  exact zr_vret C (by decide +kernel) T
theorem y_M_puts : zY yX11_puts cX11_puts 2 none 1 := ⟨q_1217, q_90, by decide +kernel, by decide +kernel, by decide +kernel⟩
theorem k_M_puts {l : Launch} {d : zD} {F : zF} {h : Nat → Nat} {σ : zS} {lv : List (Option Value)} {pc : Nat} {own : String} {cc : ByteArray} {nL fr lo idx : Nat} {rest : List Value} {β : Type} {kf : Int32 → zS → Option β} {o2 : β}  {p1 : Int32} (pc' : Nat) (C : zOk d F own cc nL fr lo) (hd : decode cc pc = .ok (.invokevirtual idx, 3)) (hp : pc + 3 = pc') (hq : Cond.methodLink own idx yX11_puts ∈ zW) (hm : 0 + 1 ≤ fr ∧ 8 + (2 + 11) + 0 ≤ lo) (hr : (rest.map fun v => v.category).sum ≤ 8) (hf : zbd (f_M_puts p1 σ) kf = some o2) (K : ∀ (r : Int32) (σ' : zS), kf r σ' = some o2 → V l d F 0 0 (MW d h σ') lv pc' (rest)) : V l d F 0 0 (MW d h σ) lv pc (.int p1 :: .ref (h 0) :: rest) := by
  obtain ⟨q, h1, h2⟩ := zbd_some hf
  exact zr_callV y_M_puts ⟨q_1216, q_41⟩ 0 rfl rfl (As := [.int p1]) (m_M_puts h1) rfl rfl pc' C hd hp hq hm hr (K _ _ h2)
/-! StepsBeyondModel.unwinds(I)V -/
def f_M_unwinds_67 (k0 : Int32 → zS → Option (Int32 × zS)) (x1 : Int32) (x2 : Int32) (y1 : Int32) (y2 : Int32) (σ : zS) : Option (Int32 × zS) :=
  zlt (zsg σ 42 (y1 - y2)) fun σ1 =>
  zbd (f_M_puts x2 σ1) fun _ σ2 =>
  k0 x1 σ2
set_option maxRecDepth 4000 in
theorem w_M_unwinds_67 {l : Launch} {d : zD} {F : zF} {h : Nat → Nat} {out : Int32 × zS}  {k0 : Int32 → zS → Option (Int32 × zS)} (C : zOk d F RX11 cX11_unwinds 3 1 21) (T : zRt d F none none (MW d h out.2)) (H0 : ∀ (x1 : Int32) (σ : zS), k0 x1 σ = some out → V l d F 0 0 (MW d h σ) [some (.ref (h 0)), some (.int x1), none] 0 []) (x1 : Int32) (x2 : Int32) (y1 : Int32) (y2 : Int32) (σ : zS) (hf : f_M_unwinds_67 k0 x1 x2 y1 y2 σ = some out) : V l d F 0 0 (MW d h σ) [some (.ref (h 0)), some (.int x1), some (.int x2)] 67 [.int y2, .int y1, .ref (h 0)] := by
  unfold f_M_unwinds_67 at hf
  refine zr_isub 68 C (by decide +kernel) rfl ?_
  refine mp_0_42 (idx := 187) 71 C (by decide +kernel) rfl q_1033 hf (fun σ1 hf => ?_)
  refine zr_aload_n 0 72 C (by decide +kernel) rfl rfl ?_
  refine zr_iload_n 2 73 C (by decide +kernel) rfl rfl ?_
  refine k_M_puts (idx := 190) 76 C (by decide +kernel) rfl q_1214 (zb2 rfl rfl) (Nat.le_of_ble_eq_true rfl) hf (fun _ σ2 hf => ?_)
  refine zr_goto (off := -76) 0 C (by decide +kernel) (by decide) ?_
  refine zr_less (zA (zA (zN zE))) ?_
  exact H0 _ _ hf
def f_M_unwinds_62 (k0 : Int32 → zS → Option (Int32 × zS)) (x1 : Int32) (x2 : Int32) (y1 : Int32) (σ : zS) : Option (Int32 × zS) :=
  f_M_unwinds_67 k0 x1 x2 y1 1 σ
set_option maxRecDepth 4000 in
theorem w_M_unwinds_62 {l : Launch} {d : zD} {F : zF} {h : Nat → Nat} {out : Int32 × zS}  {k0 : Int32 → zS → Option (Int32 × zS)} (C : zOk d F RX11 cX11_unwinds 3 1 21) (T : zRt d F none none (MW d h out.2)) (H0 : ∀ (x1 : Int32) (σ : zS), k0 x1 σ = some out → V l d F 0 0 (MW d h σ) [some (.ref (h 0)), some (.int x1), none] 0 []) (x1 : Int32) (x2 : Int32) (y1 : Int32) (σ : zS) (hf : f_M_unwinds_62 k0 x1 x2 y1 σ = some out) : V l d F 0 0 (MW d h σ) [some (.ref (h 0)), some (.int x1), some (.int x2)] 62 [.int y1, .ref (h 0)] := by
  unfold f_M_unwinds_62 at hf
  refine zr_iconst (v := 1) 1 63 C (by decide +kernel) rfl rfl ?_
  refine zr_goto (off := 4) 67 C (by decide +kernel) (by decide) ?_
  exact w_M_unwinds_67 C T H0 _ _ _ _ _ hf
def f_M_unwinds_0b (k0 : Int32 → zS → Option (Int32 × zS)) (x1 : Int32) (σ : zS) : Option (Int32 × zS) :=
  (if (σ.1 41) ≤ 0 then
  some (0, σ)
  else
  zin ((σ.1 41) - 1) 200 (zbd (f_M_rank (σ.2 23 ((σ.1 41) - 1).toNatClampNeg) σ) fun r2 σ1 =>
  (if r2 < x1 then
  some (0, σ1)
  else
  zlt (zsg σ1 41 ((σ1.1 41) - 1)) fun σ3 =>
  zin (σ3.1 41) 200 (zlt (σ3.2 23 (σ3.1 41).toNatClampNeg) fun v4 => 
  (if v4 = 13 then
  f_M_unwinds_62 k0 x1 v4 (σ3.1 42) σ3
  else
  (if v4 = 19 then
  f_M_unwinds_62 k0 x1 v4 (σ3.1 42) σ3
  else
  f_M_unwinds_67 k0 x1 v4 (σ3.1 42) 0 σ3))))))
set_option maxRecDepth 4000 in
theorem w_M_unwinds_0b {l : Launch} {d : zD} {F : zF} {h : Nat → Nat} {out : Int32 × zS}  {k0 : Int32 → zS → Option (Int32 × zS)} (C : zOk d F RX11 cX11_unwinds 3 1 21) (T : zRt d F none none (MW d h out.2)) (H0 : ∀ (x1 : Int32) (σ : zS), k0 x1 σ = some out → V l d F 0 0 (MW d h σ) [some (.ref (h 0)), some (.int x1), none] 0 []) (x1 : Int32) (σ : zS) (hf : f_M_unwinds_0b k0 x1 σ = some out) : V l d F 0 0 (MW d h σ) [some (.ref (h 0)), some (.int x1), none] 0 [] := by
  unfold f_M_unwinds_0b at hf
  refine zr_aload_n 0 1 C (by decide +kernel) rfl rfl ?_
  refine mg_0_41 (idx := 181) 4 C (by decide +kernel) rfl q_1032 ?_
  refine zr_if_le (off := 75) 79 7 C (by decide +kernel) (by decide) rfl hf (fun hf => ?_) (fun hf => ?_)
  · obtain rfl := Option.some.inj hf
    exact zr_vret C (by decide +kernel) T
  · refine zr_aload_n 0 8 C (by decide +kernel) rfl rfl ?_
    refine mg_0_40 (idx := 103) 11 C (by decide +kernel) rfl q_1031 ?_
    refine zr_aload_n 0 12 C (by decide +kernel) rfl rfl ?_
    refine mg_0_41 (idx := 181) 15 C (by decide +kernel) rfl q_1032 ?_
    refine zr_iconst (v := 1) 1 16 C (by decide +kernel) rfl rfl ?_
    refine zr_isub 17 C (by decide +kernel) rfl ?_
    refine ml_23 18 C (by decide +kernel) rfl hf (fun hf => ?_)
    refine k_M_rank (idx := 184) 21 C (by decide +kernel) rfl q_1222 (zb2 rfl rfl) (Nat.le_of_ble_eq_true rfl) hf (fun r2 σ1 hf => ?_)
    refine zr_iload_n 1 22 C (by decide +kernel) rfl rfl ?_
    refine zr_icmp_lt (off := 57) 79 25 C (by decide +kernel) (by decide) rfl hf (fun hf => ?_) (fun hf => ?_)
    · obtain rfl := Option.some.inj hf
      exact zr_vret C (by decide +kernel) T
    · refine zr_aload_n 0 26 C (by decide +kernel) rfl rfl ?_
      refine zr_dup 27 C (by decide +kernel) rfl rfl ?_
      refine mg_0_41 (idx := 181) 30 C (by decide +kernel) rfl q_1032 ?_
      refine zr_iconst (v := 1) 1 31 C (by decide +kernel) rfl rfl ?_
      refine zr_isub 32 C (by decide +kernel) rfl ?_
      refine mp_0_41 (idx := 181) 35 C (by decide +kernel) rfl q_1032 hf (fun σ3 hf => ?_)
      refine zr_aload_n 0 36 C (by decide +kernel) rfl rfl ?_
      refine mg_0_40 (idx := 103) 39 C (by decide +kernel) rfl q_1031 ?_
      refine zr_aload_n 0 40 C (by decide +kernel) rfl rfl ?_
      refine mg_0_41 (idx := 181) 43 C (by decide +kernel) rfl q_1032 ?_
      refine ml_23 44 C (by decide +kernel) rfl hf (fun hf => ?_)
      refine zr_name hf (fun v4 hf => ?_)
      refine zr_istore_n 2 [some (.ref (h 0)), some (.int x1), some (.int v4)] 45 C (by decide +kernel) rfl (by decide) rfl rfl ?_
      refine zr_aload_n 0 46 C (by decide +kernel) rfl rfl ?_
      refine zr_dup 47 C (by decide +kernel) rfl rfl ?_
      refine mg_0_42 (idx := 187) 50 C (by decide +kernel) rfl q_1033 ?_
      refine zr_iload_n 2 51 C (by decide +kernel) rfl rfl ?_
      refine zr_bipush (v := 13) 13 53 C (by decide +kernel) rfl rfl ?_
      refine zr_icmp_eq (off := 9) 62 56 C (by decide +kernel) (by decide) rfl hf (fun hf => ?_) (fun hf => ?_)
      · exact w_M_unwinds_62 C T H0 _ _ _ _ hf
      · refine zr_iload_n 2 57 C (by decide +kernel) rfl rfl ?_
        refine zr_bipush (v := 19) 19 59 C (by decide +kernel) rfl rfl ?_
        refine zr_icmp_ne (off := 7) 66 62 C (by decide +kernel) (by decide) rfl hf (fun hf => ?_) (fun hf => ?_)
        · refine zr_iconst (v := 0) 0 67 C (by decide +kernel) rfl rfl ?_
          exact w_M_unwinds_67 C T H0 _ _ _ _ _ hf
        · exact w_M_unwinds_62 C T H0 _ _ _ _ hf
def f_M_unwinds_0  : Nat → Int32 → zS → Option (Int32 × zS)
  | 0, _, _ => none
  | n + 1, x1,  σ => f_M_unwinds_0b (fun x1 σ => f_M_unwinds_0  n x1 σ) x1 σ
theorem w_M_unwinds_0 {l : Launch} {d : zD} {F : zF} {h : Nat → Nat} {out : Int32 × zS}   (C : zOk d F RX11 cX11_unwinds 3 1 21) (T : zRt d F none none (MW d h out.2))  : ∀ (n : Nat) (x1 : Int32) (σ : zS), f_M_unwinds_0  n x1 σ = some out → V l d F 0 0 (MW d h σ) [some (.ref (h 0)), some (.int x1), none] 0 [] := by
  intro n
  induction n with
  | zero =>
    intro x1 σ hf
    cases hf
  | succ n ih =>
    intro x1 σ hf
    exact w_M_unwinds_0b C T ih x1 σ hf
def f_M_unwinds (p1 : Int32) (σ : zS) : Option (Int32 × zS) :=
  f_M_unwinds_0 zfu p1 σ
set_option maxRecDepth 4000 in
theorem m_M_unwinds {l : Launch} {d : zD} {h : Nat → Nat} {out : Int32 × zS} {σ : zS} {p1 : Int32} (hf : f_M_unwinds p1 σ = some out) : zM l yX11_unwinds cX11_unwinds 3 none 1 21 d [.ref (h 0), .int p1] (MW d h σ) (MW d h out.2) none := by
  refine zM_of [some (.ref (h 0)), some (.int p1), none] (by decide +kernel) rfl (Nat.le_of_ble_eq_true rfl) (fun F C T => ?_)
  unfold f_M_unwinds at hf
  exact w_M_unwinds_0 C T zfu _ _ hf
theorem y_M_unwinds : zY yX11_unwinds cX11_unwinds 3 none 1 := ⟨q_1221, q_90, by decide +kernel, by decide +kernel, by decide +kernel⟩
theorem k_M_unwinds {l : Launch} {d : zD} {F : zF} {h : Nat → Nat} {σ : zS} {lv : List (Option Value)} {pc : Nat} {own : String} {cc : ByteArray} {nL fr lo idx : Nat} {rest : List Value} {β : Type} {kf : Int32 → zS → Option β} {o2 : β}  {p1 : Int32} (pc' : Nat) (C : zOk d F own cc nL fr lo) (hd : decode cc pc = .ok (.invokevirtual idx, 3)) (hp : pc + 3 = pc') (hq : Cond.methodLink own idx yX11_unwinds ∈ zW) (hm : 1 + 1 ≤ fr ∧ 8 + (3 + 11) + 21 ≤ lo) (hr : (rest.map fun v => v.category).sum ≤ 8) (hf : zbd (f_M_unwinds p1 σ) kf = some o2) (K : ∀ (r : Int32) (σ' : zS), kf r σ' = some o2 → V l d F 0 0 (MW d h σ') lv pc' (rest)) : V l d F 0 0 (MW d h σ) lv pc (.int p1 :: .ref (h 0) :: rest) := by
  obtain ⟨q, h1, h2⟩ := zbd_some hf
  exact zr_callV y_M_unwinds ⟨q_1220, q_42⟩ 0 rfl rfl (As := [.int p1]) (m_M_unwinds h1) rfl rfl pc' C hd hp hq hm hr (K _ _ h2)
/-! StepsBeyondModel.holds(I)V -/
def f_M_holds (p1 : Int32) (σ : zS) : Option (Int32 × zS) :=
  zin (σ.1 41) 200 (zlt (zsa σ 23 (σ.1 41) p1) fun σ1 =>
  zlt (zsg σ1 41 ((σ1.1 41) + 1)) fun σ2 =>
  some (0, σ2))
set_option maxRecDepth 4000 in
theorem m_M_holds {l : Launch} {d : zD} {h : Nat → Nat} {out : Int32 × zS} {σ : zS} {p1 : Int32} (hf : f_M_holds p1 σ = some out) : zM l yX11_holds cX11_holds 2 none 0 0 d [.ref (h 0), .int p1] (MW d h σ) (MW d h out.2) none := by
  refine zM_of [some (.ref (h 0)), some (.int p1)] (by decide +kernel) rfl (Nat.le_of_ble_eq_true rfl) (fun F C T => ?_)
  unfold f_M_holds at hf
  refine zr_aload_n 0 1 C (by decide +kernel) rfl rfl ?_
  refine mg_0_40 (idx := 103) 4 C (by decide +kernel) rfl q_1031 ?_
  refine zr_aload_n 0 5 C (by decide +kernel) rfl rfl ?_
  refine mg_0_41 (idx := 181) 8 C (by decide +kernel) rfl q_1032 ?_
  refine zr_iload_n 1 9 C (by decide +kernel) rfl rfl ?_
  refine ms_23 10 C (by decide +kernel) rfl hf (fun σ1 hf => ?_)
  refine zr_aload_n 0 11 C (by decide +kernel) rfl rfl ?_
  refine zr_dup 12 C (by decide +kernel) rfl rfl ?_
  refine mg_0_41 (idx := 181) 15 C (by decide +kernel) rfl q_1032 ?_
  refine zr_iconst (v := 1) 1 16 C (by decide +kernel) rfl rfl ?_
  refine zr_iadd 17 C (by decide +kernel) rfl ?_
  refine mp_0_41 (idx := 181) 20 C (by decide +kernel) rfl q_1032 hf (fun σ2 hf => ?_)
  obtain rfl := Option.some.inj hf
  exact zr_vret C (by decide +kernel) T
theorem y_M_holds : zY yX11_holds cX11_holds 2 none 1 := ⟨q_1232, q_90, by decide +kernel, by decide +kernel, by decide +kernel⟩
theorem k_M_holds {l : Launch} {d : zD} {F : zF} {h : Nat → Nat} {σ : zS} {lv : List (Option Value)} {pc : Nat} {own : String} {cc : ByteArray} {nL fr lo idx : Nat} {rest : List Value} {β : Type} {kf : Int32 → zS → Option β} {o2 : β}  {p1 : Int32} (pc' : Nat) (C : zOk d F own cc nL fr lo) (hd : decode cc pc = .ok (.invokevirtual idx, 3)) (hp : pc + 3 = pc') (hq : Cond.methodLink own idx yX11_holds ∈ zW) (hm : 0 + 1 ≤ fr ∧ 8 + (2 + 11) + 0 ≤ lo) (hr : (rest.map fun v => v.category).sum ≤ 8) (hf : zbd (f_M_holds p1 σ) kf = some o2) (K : ∀ (r : Int32) (σ' : zS), kf r σ' = some o2 → V l d F 0 0 (MW d h σ') lv pc' (rest)) : V l d F 0 0 (MW d h σ) lv pc (.int p1 :: .ref (h 0) :: rest) := by
  obtain ⟨q, h1, h2⟩ := zbd_some hf
  exact zr_callV y_M_holds ⟨q_1231, q_44⟩ 0 rfl rfl (As := [.int p1]) (m_M_holds h1) rfl rfl pc' C hd hp hq hm hr (K _ _ h2)
/-! StepsBeyondModel.opensOne(I)Z -/
def f_M_opensOne (p1 : Int32) (σ : zS) : Option (Int32 × zS) :=
  (if (σ.1 42) = 5 then
  some (0, σ)
  else
  zlt (zsg σ 42 ((σ.1 42) + 1)) fun σ1 =>
  zbd (f_M_holds p1 σ1) fun _ σ2 =>
  some (1, σ2))
set_option maxRecDepth 4000 in
theorem m_M_opensOne {l : Launch} {d : zD} {h : Nat → Nat} {out : Int32 × zS} {σ : zS} {p1 : Int32} (hf : f_M_opensOne p1 σ = some out) : zM l yX11_opensOne cX11_opensOne 2 (some .boolean) 1 21 d [.ref (h 0), .int p1] (MW d h σ) (MW d h out.2) (some (.int out.1)) := by
  refine zM_of [some (.ref (h 0)), some (.int p1)] (by decide +kernel) rfl (Nat.le_of_ble_eq_true rfl) (fun F C T => ?_)
  unfold f_M_opensOne at hf
  refine zr_aload_n 0 1 C (by decide +kernel) rfl rfl ?_
  refine mg_0_42 (idx := 187) 4 C (by decide +kernel) rfl q_1033 ?_
  refine zr_iconst (v := 5) 5 5 C (by decide +kernel) rfl rfl ?_
  refine zr_icmp_ne (off := 5) 10 8 C (by decide +kernel) (by decide) rfl hf (fun hf => ?_) (fun hf => ?_)
  · refine zr_aload_n 0 11 C (by decide +kernel) rfl rfl ?_
    refine zr_dup 12 C (by decide +kernel) rfl rfl ?_
    refine mg_0_42 (idx := 187) 15 C (by decide +kernel) rfl q_1033 ?_
    refine zr_iconst (v := 1) 1 16 C (by decide +kernel) rfl rfl ?_
    refine zr_iadd 17 C (by decide +kernel) rfl ?_
    refine mp_0_42 (idx := 187) 20 C (by decide +kernel) rfl q_1033 hf (fun σ1 hf => ?_)
    refine zr_aload_n 0 21 C (by decide +kernel) rfl rfl ?_
    refine zr_iload_n 1 22 C (by decide +kernel) rfl rfl ?_
    refine k_M_holds (idx := 194) 25 C (by decide +kernel) rfl q_1229 (zb2 rfl rfl) (Nat.le_of_ble_eq_true rfl) hf (fun _ σ2 hf => ?_)
    refine zr_iconst (v := 1) 1 26 C (by decide +kernel) rfl rfl ?_
    obtain rfl := Option.some.inj hf
    exact zr_zret C (by decide +kernel) rfl T
  · refine zr_iconst (v := 0) 0 9 C (by decide +kernel) rfl rfl ?_
    obtain rfl := Option.some.inj hf
    exact zr_zret C (by decide +kernel) rfl T
theorem y_M_opensOne : zY yX11_opensOne cX11_opensOne 2 (some .boolean) 1 := ⟨q_1228, q_90, by decide +kernel, by decide +kernel, by decide +kernel⟩
theorem k_M_opensOne {l : Launch} {d : zD} {F : zF} {h : Nat → Nat} {σ : zS} {lv : List (Option Value)} {pc : Nat} {own : String} {cc : ByteArray} {nL fr lo idx : Nat} {rest : List Value} {β : Type} {kf : Int32 → zS → Option β} {o2 : β}  {p1 : Int32} (pc' : Nat) (C : zOk d F own cc nL fr lo) (hd : decode cc pc = .ok (.invokevirtual idx, 3)) (hp : pc + 3 = pc') (hq : Cond.methodLink own idx yX11_opensOne ∈ zW) (hm : 1 + 1 ≤ fr ∧ 8 + (2 + 11) + 21 ≤ lo) (hr : (rest.map fun v => v.category).sum ≤ 8) (hf : zbd (f_M_opensOne p1 σ) kf = some o2) (K : ∀ (r : Int32) (σ' : zS), kf r σ' = some o2 → V l d F 0 0 (MW d h σ') lv pc' (.int r :: rest)) : V l d F 0 0 (MW d h σ) lv pc (.int p1 :: .ref (h 0) :: rest) := by
  obtain ⟨q, h1, h2⟩ := zbd_some hf
  exact zr_callV y_M_opensOne ⟨q_1227, q_43⟩ 0 rfl rfl (As := [.int p1]) (m_M_opensOne h1) rfl rfl pc' C hd hp hq hm hr (K _ _ h2)
/-! StepsBeyondModel.between(I)Z -/
def f_M_between_55  (x1 : Int32) (σ : zS) : Option (Int32 × zS) :=
  zbd (f_M_holds x1 σ) fun _ σ1 =>
  some (1, σ1)
set_option maxRecDepth 4000 in
theorem w_M_between_55 {l : Launch} {d : zD} {F : zF} {h : Nat → Nat} {out : Int32 × zS}   (C : zOk d F RX11 cX11_between 2 2 43) (T : zRt d F (some .boolean) (some (.int out.1)) (MW d h out.2))  (x1 : Int32) (σ : zS) (hf : f_M_between_55  x1 σ = some out) : V l d F 0 0 (MW d h σ) [some (.ref (h 0)), some (.int x1)] 55 [] := by
  unfold f_M_between_55 at hf
  refine zr_aload_n 0 56 C (by decide +kernel) rfl rfl ?_
  refine zr_iload_n 1 57 C (by decide +kernel) rfl rfl ?_
  refine k_M_holds (idx := 194) 60 C (by decide +kernel) rfl q_1229 (zb2 rfl rfl) (Nat.le_of_ble_eq_true rfl) hf (fun _ σ1 hf => ?_)
  refine zr_iconst (v := 1) 1 61 C (by decide +kernel) rfl rfl ?_
  obtain rfl := Option.some.inj hf
  exact zr_zret C (by decide +kernel) rfl T
def f_M_between_17  (x1 : Int32) (y1 : Int32) (σ : zS) : Option (Int32 × zS) :=
  zbd (f_M_unwinds y1 σ) fun _ σ1 =>
  zbd (f_M_rank x1 σ1) fun r3 σ2 =>
  (if r3 = 4 then
  (if (σ2.1 41) ≤ 0 then
  f_M_between_55 x1 σ2
  else
  zin ((σ2.1 41) - 1) 200 (zbd (f_M_rank (σ2.2 23 ((σ2.1 41) - 1).toNatClampNeg) σ2) fun r5 σ4 =>
  (if r5 = 4 then
  some (0, σ4)
  else
  f_M_between_55 x1 σ4)))
  else
  f_M_between_55 x1 σ2)
set_option maxRecDepth 4000 in
theorem w_M_between_17 {l : Launch} {d : zD} {F : zF} {h : Nat → Nat} {out : Int32 × zS}   (C : zOk d F RX11 cX11_between 2 2 43) (T : zRt d F (some .boolean) (some (.int out.1)) (MW d h out.2))  (x1 : Int32) (y1 : Int32) (σ : zS) (hf : f_M_between_17  x1 y1 σ = some out) : V l d F 0 0 (MW d h σ) [some (.ref (h 0)), some (.int x1)] 17 [.int y1, .ref (h 0)] := by
  unfold f_M_between_17 at hf
  refine k_M_unwinds (idx := 197) 20 C (by decide +kernel) rfl q_1218 (zb2 rfl rfl) (Nat.le_of_ble_eq_true rfl) hf (fun _ σ1 hf => ?_)
  refine zr_iload_n 1 21 C (by decide +kernel) rfl rfl ?_
  refine k_M_rank (idx := 184) 24 C (by decide +kernel) rfl q_1222 (zb2 rfl rfl) (Nat.le_of_ble_eq_true rfl) hf (fun r3 σ2 hf => ?_)
  refine zr_iconst (v := 4) 4 25 C (by decide +kernel) rfl rfl ?_
  refine zr_icmp_ne (off := 30) 55 28 C (by decide +kernel) (by decide) rfl hf (fun hf => ?_) (fun hf => ?_)
  · exact w_M_between_55 C T _ _ hf
  · refine zr_aload_n 0 29 C (by decide +kernel) rfl rfl ?_
    refine mg_0_41 (idx := 181) 32 C (by decide +kernel) rfl q_1032 ?_
    refine zr_if_le (off := 23) 55 35 C (by decide +kernel) (by decide) rfl hf (fun hf => ?_) (fun hf => ?_)
    · exact w_M_between_55 C T _ _ hf
    · refine zr_aload_n 0 36 C (by decide +kernel) rfl rfl ?_
      refine mg_0_40 (idx := 103) 39 C (by decide +kernel) rfl q_1031 ?_
      refine zr_aload_n 0 40 C (by decide +kernel) rfl rfl ?_
      refine mg_0_41 (idx := 181) 43 C (by decide +kernel) rfl q_1032 ?_
      refine zr_iconst (v := 1) 1 44 C (by decide +kernel) rfl rfl ?_
      refine zr_isub 45 C (by decide +kernel) rfl ?_
      refine ml_23 46 C (by decide +kernel) rfl hf (fun hf => ?_)
      refine k_M_rank (idx := 184) 49 C (by decide +kernel) rfl q_1222 (zb2 rfl rfl) (Nat.le_of_ble_eq_true rfl) hf (fun r5 σ4 hf => ?_)
      refine zr_iconst (v := 4) 4 50 C (by decide +kernel) rfl rfl ?_
      refine zr_icmp_ne (off := 5) 55 53 C (by decide +kernel) (by decide) rfl hf (fun hf => ?_) (fun hf => ?_)
      · exact w_M_between_55 C T _ _ hf
      · refine zr_iconst (v := 0) 0 54 C (by decide +kernel) rfl rfl ?_
        obtain rfl := Option.some.inj hf
        exact zr_zret C (by decide +kernel) rfl T
def f_M_between (p1 : Int32) (σ : zS) : Option (Int32 × zS) :=
  zbd (f_M_rank p1 σ) fun r2 σ1 =>
  (if r2 = 4 then
  f_M_between_17 p1 5 σ1
  else
  zbd (f_M_rank p1 σ1) fun r4 σ3 =>
  f_M_between_17 p1 r4 σ3)
set_option maxRecDepth 4000 in
theorem m_M_between {l : Launch} {d : zD} {h : Nat → Nat} {out : Int32 × zS} {σ : zS} {p1 : Int32} (hf : f_M_between p1 σ = some out) : zM l yX11_between cX11_between 2 (some .boolean) 2 43 d [.ref (h 0), .int p1] (MW d h σ) (MW d h out.2) (some (.int out.1)) := by
  refine zM_of [some (.ref (h 0)), some (.int p1)] (by decide +kernel) rfl (Nat.le_of_ble_eq_true rfl) (fun F C T => ?_)
  unfold f_M_between at hf
  refine zr_aload_n 0 1 C (by decide +kernel) rfl rfl ?_
  refine zr_iload_n 1 2 C (by decide +kernel) rfl rfl ?_
  refine k_M_rank (idx := 184) 5 C (by decide +kernel) rfl q_1222 (zb2 rfl rfl) (Nat.le_of_ble_eq_true rfl) hf (fun r2 σ1 hf => ?_)
  refine zr_iconst (v := 4) 4 6 C (by decide +kernel) rfl rfl ?_
  refine zr_icmp_ne (off := 7) 13 9 C (by decide +kernel) (by decide) rfl hf (fun hf => ?_) (fun hf => ?_)
  · refine zr_iload_n 1 14 C (by decide +kernel) rfl rfl ?_
    refine k_M_rank (idx := 184) 17 C (by decide +kernel) rfl q_1222 (zb2 rfl rfl) (Nat.le_of_ble_eq_true rfl) hf (fun r4 σ3 hf => ?_)
    exact w_M_between_17 C T _ _ _ hf
  · refine zr_iconst (v := 5) 5 10 C (by decide +kernel) rfl rfl ?_
    refine zr_goto (off := 7) 17 C (by decide +kernel) (by decide) ?_
    exact w_M_between_17 C T _ _ _ hf
theorem y_M_between : zY yX11_between cX11_between 2 (some .boolean) 1 := ⟨q_1240, q_90, by decide +kernel, by decide +kernel, by decide +kernel⟩
theorem k_M_between {l : Launch} {d : zD} {F : zF} {h : Nat → Nat} {σ : zS} {lv : List (Option Value)} {pc : Nat} {own : String} {cc : ByteArray} {nL fr lo idx : Nat} {rest : List Value} {β : Type} {kf : Int32 → zS → Option β} {o2 : β}  {p1 : Int32} (pc' : Nat) (C : zOk d F own cc nL fr lo) (hd : decode cc pc = .ok (.invokevirtual idx, 3)) (hp : pc + 3 = pc') (hq : Cond.methodLink own idx yX11_between ∈ zW) (hm : 2 + 1 ≤ fr ∧ 8 + (2 + 11) + 43 ≤ lo) (hr : (rest.map fun v => v.category).sum ≤ 8) (hf : zbd (f_M_between p1 σ) kf = some o2) (K : ∀ (r : Int32) (σ' : zS), kf r σ' = some o2 → V l d F 0 0 (MW d h σ') lv pc' (.int r :: rest)) : V l d F 0 0 (MW d h σ) lv pc (.int p1 :: .ref (h 0) :: rest) := by
  obtain ⟨q, h1, h2⟩ := zbd_some hf
  exact zr_callV y_M_between ⟨q_1239, q_46⟩ 0 rfl rfl (As := [.int p1]) (m_M_between h1) rfl rfl pc' C hd hp hq hm hr (K _ _ h2)
/-! StepsBeyondModel.signOf()I -/
def f_M_signOf  (σ : zS) : Option (Int32 × zS) :=
  (if (σ.1 37) = 4 then
  some (11, σ)
  else
  (if (σ.1 37) = 5 then
  some (12, σ)
  else
  (if (σ.1 37) = 60 then
  some (14, σ)
  else
  (if (σ.1 37) = 61 then
  some (15, σ)
  else
  (if (σ.1 37) = 43 then
  some (16, σ)
  else
  (if (σ.1 37) = 45 then
  some (17, σ)
  else
  (if (σ.1 37) = 42 then
  some (18, σ)
  else
  some (-1, σ))))))))
set_option maxRecDepth 4000 in
theorem m_M_signOf {l : Launch} {d : zD} {h : Nat → Nat} {out : Int32 × zS} {σ : zS}  (hf : f_M_signOf  σ = some out) : zM l yX11_signOf cX11_signOf 1 (some .int) 0 0 d [.ref (h 0)] (MW d h σ) (MW d h out.2) (some (.int out.1)) := by
  refine zM_of [some (.ref (h 0))] (by decide +kernel) rfl (Nat.le_of_ble_eq_true rfl) (fun F C T => ?_)
  unfold f_M_signOf at hf
  refine zr_aload_n 0 1 C (by decide +kernel) rfl rfl ?_
  refine mg_0_37 (idx := 168) 4 C (by decide +kernel) rfl q_1028 ?_
  refine zr_iconst (v := 4) 4 5 C (by decide +kernel) rfl rfl ?_
  refine zr_icmp_ne (off := 8) 13 8 C (by decide +kernel) (by decide) rfl hf (fun hf => ?_) (fun hf => ?_)
  · refine zr_aload_n 0 14 C (by decide +kernel) rfl rfl ?_
    refine mg_0_37 (idx := 168) 17 C (by decide +kernel) rfl q_1028 ?_
    refine zr_iconst (v := 5) 5 18 C (by decide +kernel) rfl rfl ?_
    refine zr_icmp_ne (off := 8) 26 21 C (by decide +kernel) (by decide) rfl hf (fun hf => ?_) (fun hf => ?_)
    · refine zr_aload_n 0 27 C (by decide +kernel) rfl rfl ?_
      refine mg_0_37 (idx := 168) 30 C (by decide +kernel) rfl q_1028 ?_
      refine zr_bipush (v := 60) 60 32 C (by decide +kernel) rfl rfl ?_
      refine zr_icmp_ne (off := 8) 40 35 C (by decide +kernel) (by decide) rfl hf (fun hf => ?_) (fun hf => ?_)
      · refine zr_aload_n 0 41 C (by decide +kernel) rfl rfl ?_
        refine mg_0_37 (idx := 168) 44 C (by decide +kernel) rfl q_1028 ?_
        refine zr_bipush (v := 61) 61 46 C (by decide +kernel) rfl rfl ?_
        refine zr_icmp_ne (off := 8) 54 49 C (by decide +kernel) (by decide) rfl hf (fun hf => ?_) (fun hf => ?_)
        · refine zr_aload_n 0 55 C (by decide +kernel) rfl rfl ?_
          refine mg_0_37 (idx := 168) 58 C (by decide +kernel) rfl q_1028 ?_
          refine zr_bipush (v := 43) 43 60 C (by decide +kernel) rfl rfl ?_
          refine zr_icmp_ne (off := 8) 68 63 C (by decide +kernel) (by decide) rfl hf (fun hf => ?_) (fun hf => ?_)
          · refine zr_aload_n 0 69 C (by decide +kernel) rfl rfl ?_
            refine mg_0_37 (idx := 168) 72 C (by decide +kernel) rfl q_1028 ?_
            refine zr_bipush (v := 45) 45 74 C (by decide +kernel) rfl rfl ?_
            refine zr_icmp_ne (off := 8) 82 77 C (by decide +kernel) (by decide) rfl hf (fun hf => ?_) (fun hf => ?_)
            · refine zr_aload_n 0 83 C (by decide +kernel) rfl rfl ?_
              refine mg_0_37 (idx := 168) 86 C (by decide +kernel) rfl q_1028 ?_
              refine zr_bipush (v := 42) 42 88 C (by decide +kernel) rfl rfl ?_
              refine zr_icmp_ne (off := 8) 96 91 C (by decide +kernel) (by decide) rfl hf (fun hf => ?_) (fun hf => ?_)
              · refine zr_iconst (v := (-1)) (-1) 97 C (by decide +kernel) rfl rfl ?_
                obtain rfl := Option.some.inj hf
                exact zr_iret C (by decide +kernel) T
              · refine zr_bipush (v := 18) 18 93 C (by decide +kernel) rfl rfl ?_
                refine zr_goto (off := 4) 97 C (by decide +kernel) (by decide) ?_
                obtain rfl := Option.some.inj hf
                exact zr_iret C (by decide +kernel) T
            · refine zr_bipush (v := 17) 17 79 C (by decide +kernel) rfl rfl ?_
              refine zr_goto (off := 18) 97 C (by decide +kernel) (by decide) ?_
              obtain rfl := Option.some.inj hf
              exact zr_iret C (by decide +kernel) T
          · refine zr_bipush (v := 16) 16 65 C (by decide +kernel) rfl rfl ?_
            refine zr_goto (off := 32) 97 C (by decide +kernel) (by decide) ?_
            obtain rfl := Option.some.inj hf
            exact zr_iret C (by decide +kernel) T
        · refine zr_bipush (v := 15) 15 51 C (by decide +kernel) rfl rfl ?_
          refine zr_goto (off := 46) 97 C (by decide +kernel) (by decide) ?_
          obtain rfl := Option.some.inj hf
          exact zr_iret C (by decide +kernel) T
      · refine zr_bipush (v := 14) 14 37 C (by decide +kernel) rfl rfl ?_
        refine zr_goto (off := 60) 97 C (by decide +kernel) (by decide) ?_
        obtain rfl := Option.some.inj hf
        exact zr_iret C (by decide +kernel) T
    · refine zr_bipush (v := 12) 12 23 C (by decide +kernel) rfl rfl ?_
      refine zr_goto (off := 74) 97 C (by decide +kernel) (by decide) ?_
      obtain rfl := Option.some.inj hf
      exact zr_iret C (by decide +kernel) T
  · refine zr_bipush (v := 11) 11 10 C (by decide +kernel) rfl rfl ?_
    refine zr_goto (off := 87) 97 C (by decide +kernel) (by decide) ?_
    obtain rfl := Option.some.inj hf
    exact zr_iret C (by decide +kernel) T
theorem y_M_signOf : zY yX11_signOf cX11_signOf 1 (some .int) 0 := ⟨q_1236, q_90, by decide +kernel, by decide +kernel, by decide +kernel⟩
theorem k_M_signOf {l : Launch} {d : zD} {F : zF} {h : Nat → Nat} {σ : zS} {lv : List (Option Value)} {pc : Nat} {own : String} {cc : ByteArray} {nL fr lo idx : Nat} {rest : List Value} {β : Type} {kf : Int32 → zS → Option β} {o2 : β}   (pc' : Nat) (C : zOk d F own cc nL fr lo) (hd : decode cc pc = .ok (.invokevirtual idx, 3)) (hp : pc + 3 = pc') (hq : Cond.methodLink own idx yX11_signOf ∈ zW) (hm : 0 + 1 ≤ fr ∧ 8 + (1 + 11) + 0 ≤ lo) (hr : (rest.map fun v => v.category).sum ≤ 8) (hf : zbd (f_M_signOf  σ) kf = some o2) (K : ∀ (r : Int32) (σ' : zS), kf r σ' = some o2 → V l d F 0 0 (MW d h σ') lv pc' (.int r :: rest)) : V l d F 0 0 (MW d h σ) lv pc (.ref (h 0) :: rest) := by
  obtain ⟨q, h1, h2⟩ := zbd_some hf
  exact zr_callV y_M_signOf ⟨q_1235, q_45⟩ 0 rfl rfl (As := []) (m_M_signOf h1) rfl rfl pc' C hd hp hq hm hr (K _ _ h2)
/-! StepsBeyondModel.eRead()Z -/
def f_M_eRead_262 (k14 : Int32 → Int32 → zS → Option (Int32 × zS)) (x1 : Int32) (y0 : Int32) (σ : zS) : Option (Int32 × zS) :=
  k14 x1 y0 σ
set_option maxRecDepth 4000 in
theorem w_M_eRead_262 {l : Launch} {d : zD} {F : zF} {h : Nat → Nat} {out : Int32 × zS}  {k14 : Int32 → Int32 → zS → Option (Int32 × zS)} (C : zOk d F RX11 cX11_eRead 4 3 69) (T : zRt d F (some .boolean) (some (.int out.1)) (MW d h out.2)) (H14 : ∀ (x1 : Int32) (x2 : Int32) (σ : zS), k14 x1 x2 σ = some out → V l d F 0 0 (MW d h σ) [some (.ref (h 0)), some (.int x1), some (.int x2), none] 14 []) (x1 : Int32) (y0 : Int32) (σ : zS) (hf : f_M_eRead_262 k14 x1 y0 σ = some out) : V l d F 0 0 (MW d h σ) [some (.ref (h 0)), some (.int x1), none, none] 262 [.int y0] := by
  unfold f_M_eRead_262 at hf
  refine zr_istore_n 2 [some (.ref (h 0)), some (.int x1), some (.int y0), none] 263 C (by decide +kernel) rfl (by decide) rfl rfl ?_
  refine zr_goto (off := -249) 14 C (by decide +kernel) (by decide) ?_
  exact H14 _ _ _ hf
def f_M_eRead_99 (k14 : Int32 → Int32 → zS → Option (Int32 × zS)) (x1 : Int32) (σ : zS) : Option (Int32 × zS) :=
  (if (σ.1 37) = 45 then
  zbd (f_M_opensOne 19 σ) fun r4 σ3 =>
  (if r4 = 0 then
  some (0, σ3)
  else
  k14 x1 0 σ3)
  else
  (if (σ.1 37) = 40 then
  zbd (f_M_opensOne 0 σ) fun r2 σ1 =>
  (if r2 = 0 then
  some (0, σ1)
  else
  k14 x1 1 σ1)
  else
  some (0, σ)))
set_option maxRecDepth 4000 in
theorem w_M_eRead_99 {l : Launch} {d : zD} {F : zF} {h : Nat → Nat} {out : Int32 × zS}  {k14 : Int32 → Int32 → zS → Option (Int32 × zS)} (C : zOk d F RX11 cX11_eRead 4 3 69) (T : zRt d F (some .boolean) (some (.int out.1)) (MW d h out.2)) (H14 : ∀ (x1 : Int32) (x2 : Int32) (σ : zS), k14 x1 x2 σ = some out → V l d F 0 0 (MW d h σ) [some (.ref (h 0)), some (.int x1), some (.int x2), none] 14 []) (x1 : Int32) (σ : zS) (hf : f_M_eRead_99 k14 x1 σ = some out) : V l d F 0 0 (MW d h σ) [some (.ref (h 0)), some (.int x1), none, none] 99 [] := by
  unfold f_M_eRead_99 at hf
  refine zr_aload_n 0 100 C (by decide +kernel) rfl rfl ?_
  refine mg_0_37 (idx := 168) 103 C (by decide +kernel) rfl q_1028 ?_
  refine zr_bipush (v := 45) 45 105 C (by decide +kernel) rfl rfl ?_
  refine zr_icmp_ne (off := 19) 124 108 C (by decide +kernel) (by decide) rfl hf (fun hf => ?_) (fun hf => ?_)
  · refine zr_aload_n 0 125 C (by decide +kernel) rfl rfl ?_
    refine mg_0_37 (idx := 168) 128 C (by decide +kernel) rfl q_1028 ?_
    refine zr_bipush (v := 40) 40 130 C (by decide +kernel) rfl rfl ?_
    refine zr_icmp_ne (off := 18) 148 133 C (by decide +kernel) (by decide) rfl hf (fun hf => ?_) (fun hf => ?_)
    · refine zr_iconst (v := 0) 0 149 C (by decide +kernel) rfl rfl ?_
      obtain rfl := Option.some.inj hf
      exact zr_zret C (by decide +kernel) rfl T
    · refine zr_aload_n 0 134 C (by decide +kernel) rfl rfl ?_
      refine zr_iconst (v := 0) 0 135 C (by decide +kernel) rfl rfl ?_
      refine k_M_opensOne (idx := 204) 138 C (by decide +kernel) rfl q_1225 (zb2 rfl rfl) (Nat.le_of_ble_eq_true rfl) hf (fun r2 σ1 hf => ?_)
      refine zr_if_ne (off := 5) 143 141 C (by decide +kernel) (by decide) rfl hf (fun hf => ?_) (fun hf => ?_)
      · refine zr_iconst (v := 1) 1 144 C (by decide +kernel) rfl rfl ?_
        refine zr_istore_n 2 [some (.ref (h 0)), some (.int x1), some (.int 1), none] 145 C (by decide +kernel) rfl (by decide) rfl rfl ?_
        refine zr_goto (off := -131) 14 C (by decide +kernel) (by decide) ?_
        exact H14 _ _ _ hf
      · refine zr_iconst (v := 0) 0 142 C (by decide +kernel) rfl rfl ?_
        obtain rfl := Option.some.inj hf
        exact zr_zret C (by decide +kernel) rfl T
  · refine zr_aload_n 0 109 C (by decide +kernel) rfl rfl ?_
    refine zr_bipush (v := 19) 19 111 C (by decide +kernel) rfl rfl ?_
    refine k_M_opensOne (idx := 204) 114 C (by decide +kernel) rfl q_1225 (zb2 rfl rfl) (Nat.le_of_ble_eq_true rfl) hf (fun r4 σ3 hf => ?_)
    refine zr_if_ne (off := 5) 119 117 C (by decide +kernel) (by decide) rfl hf (fun hf => ?_) (fun hf => ?_)
    · refine zr_iconst (v := 0) 0 120 C (by decide +kernel) rfl rfl ?_
      refine zr_istore_n 2 [some (.ref (h 0)), some (.int x1), some (.int 0), none] 121 C (by decide +kernel) rfl (by decide) rfl rfl ?_
      refine zr_goto (off := -107) 14 C (by decide +kernel) (by decide) ?_
      exact H14 _ _ _ hf
    · refine zr_iconst (v := 0) 0 118 C (by decide +kernel) rfl rfl ?_
      obtain rfl := Option.some.inj hf
      exact zr_zret C (by decide +kernel) rfl T
def f_M_eRead_61 (k14 : Int32 → Int32 → zS → Option (Int32 × zS)) (x2 : Int32) (y1 : Int32) (σ : zS) : Option (Int32 × zS) :=
  zbd (f_M_puts y1 σ) fun _ σ1 =>
  zbd (f_M_unwinds 7 σ1) fun _ σ2 =>
  k14 0 x2 σ2
set_option maxRecDepth 4000 in
theorem w_M_eRead_61 {l : Launch} {d : zD} {F : zF} {h : Nat → Nat} {out : Int32 × zS}  {k14 : Int32 → Int32 → zS → Option (Int32 × zS)} (C : zOk d F RX11 cX11_eRead 4 3 69) (T : zRt d F (some .boolean) (some (.int out.1)) (MW d h out.2)) (H14 : ∀ (x1 : Int32) (x2 : Int32) (σ : zS), k14 x1 x2 σ = some out → V l d F 0 0 (MW d h σ) [some (.ref (h 0)), some (.int x1), some (.int x2), none] 14 []) (x2 : Int32) (y1 : Int32) (σ : zS) (hf : f_M_eRead_61 k14 x2 y1 σ = some out) : V l d F 0 0 (MW d h σ) [some (.ref (h 0)), none, some (.int x2), none] 61 [.int y1, .ref (h 0)] := by
  unfold f_M_eRead_61 at hf
  refine k_M_puts (idx := 190) 64 C (by decide +kernel) rfl q_1214 (zb2 rfl rfl) (Nat.le_of_ble_eq_true rfl) hf (fun _ σ1 hf => ?_)
  refine zr_aload_n 0 65 C (by decide +kernel) rfl rfl ?_
  refine zr_bipush (v := 7) 7 67 C (by decide +kernel) rfl rfl ?_
  refine k_M_unwinds (idx := 197) 70 C (by decide +kernel) rfl q_1218 (zb2 rfl rfl) (Nat.le_of_ble_eq_true rfl) hf (fun _ σ2 hf => ?_)
  refine zr_iconst (v := 0) 0 71 C (by decide +kernel) rfl rfl ?_
  refine zr_istore_n 1 [some (.ref (h 0)), some (.int 0), some (.int x2), none] 72 C (by decide +kernel) rfl (by decide) rfl rfl ?_
  refine zr_goto (off := -58) 14 C (by decide +kernel) (by decide) ?_
  exact H14 _ _ _ hf
def f_M_eRead_38 (k14 : Int32 → Int32 → zS → Option (Int32 × zS)) (x2 : Int32) (σ : zS) : Option (Int32 × zS) :=
  (if (σ.1 37) = 1 then
  f_M_eRead_61 k14 x2 (100000 + (σ.1 38)) σ
  else
  f_M_eRead_61 k14 x2 (σ.1 38) σ)
set_option maxRecDepth 4000 in
theorem w_M_eRead_38 {l : Launch} {d : zD} {F : zF} {h : Nat → Nat} {out : Int32 × zS}  {k14 : Int32 → Int32 → zS → Option (Int32 × zS)} (C : zOk d F RX11 cX11_eRead 4 3 69) (T : zRt d F (some .boolean) (some (.int out.1)) (MW d h out.2)) (H14 : ∀ (x1 : Int32) (x2 : Int32) (σ : zS), k14 x1 x2 σ = some out → V l d F 0 0 (MW d h σ) [some (.ref (h 0)), some (.int x1), some (.int x2), none] 14 []) (x2 : Int32) (σ : zS) (hf : f_M_eRead_38 k14 x2 σ = some out) : V l d F 0 0 (MW d h σ) [some (.ref (h 0)), none, some (.int x2), none] 38 [] := by
  unfold f_M_eRead_38 at hf
  refine zr_aload_n 0 39 C (by decide +kernel) rfl rfl ?_
  refine zr_aload_n 0 40 C (by decide +kernel) rfl rfl ?_
  refine mg_0_37 (idx := 168) 43 C (by decide +kernel) rfl q_1028 ?_
  refine zr_iconst (v := 1) 1 44 C (by decide +kernel) rfl rfl ?_
  refine zr_icmp_ne (off := 13) 57 47 C (by decide +kernel) (by decide) rfl hf (fun hf => ?_) (fun hf => ?_)
  · refine zr_aload_n 0 58 C (by decide +kernel) rfl rfl ?_
    refine mg_0_38 (idx := 171) 61 C (by decide +kernel) rfl q_1029 ?_
    exact w_M_eRead_61 C T H14 _ _ _ hf
  · refine zr_ldc (v := 100000) (i := 203) 49 C (by decide +kernel) rfl q_1213 ?_
    refine zr_aload_n 0 50 C (by decide +kernel) rfl rfl ?_
    refine mg_0_38 (idx := 171) 53 C (by decide +kernel) rfl q_1029 ?_
    refine zr_iadd 54 C (by decide +kernel) rfl ?_
    refine zr_goto (off := 7) 61 C (by decide +kernel) (by decide) ?_
    exact w_M_eRead_61 C T H14 _ _ _ hf
def f_M_eRead_14b (k14 : Int32 → Int32 → zS → Option (Int32 × zS)) (x1 : Int32) (x2 : Int32) (σ : zS) : Option (Int32 × zS) :=
  zbd (f_M_next  σ) fun _ σ1 =>
  (if x1 = 0 then
  (if (σ1.1 37) = 59 then
  zbd (f_M_unwinds 1 σ1) fun _ σ10 =>
  (if (σ10.1 41) = 0 then
  some (1, σ10)
  else
  some (0, σ10))
  else
  (if (σ1.1 37) = 41 then
  zbd (f_M_unwinds 1 σ1) fun _ σ6 =>
  (if (σ6.1 41) = 0 then
  some (0, σ6)
  else
  zlt (zsg σ6 41 ((σ6.1 41) - 1)) fun σ7 =>
  zlt (zsg σ7 42 ((σ7.1 42) - 1)) fun σ8 =>
  zbd (f_M_unwinds 7 σ8) fun _ σ9 =>
  k14 x1 x2 σ9)
  else
  zbd (f_M_signOf  σ1) fun r3 σ2 =>
  (if r3 = (-1) then
  some (0, σ2)
  else
  zbd (f_M_between r3 σ2) fun r5 σ4 =>
  (if r5 = 0 then
  some (0, σ4)
  else
  (if 12 < r3 then
  f_M_eRead_262 k14 1 0 σ4
  else
  f_M_eRead_262 k14 1 1 σ4)))))
  else
  (if (σ1.1 37) = 1 then
  f_M_eRead_38 k14 x2 σ1
  else
  (if (σ1.1 37) = 2 then
  f_M_eRead_38 k14 x2 σ1
  else
  (if (σ1.1 37) = 6 then
  (if x2 = 0 then
  f_M_eRead_99 k14 x1 σ1
  else
  zbd (f_M_opensOne 13 σ1) fun r12 σ11 =>
  (if r12 = 0 then
  some (0, σ11)
  else
  k14 x1 x2 σ11))
  else
  f_M_eRead_99 k14 x1 σ1))))
set_option maxRecDepth 4000 in
theorem w_M_eRead_14b {l : Launch} {d : zD} {F : zF} {h : Nat → Nat} {out : Int32 × zS}  {k14 : Int32 → Int32 → zS → Option (Int32 × zS)} (C : zOk d F RX11 cX11_eRead 4 3 69) (T : zRt d F (some .boolean) (some (.int out.1)) (MW d h out.2)) (H14 : ∀ (x1 : Int32) (x2 : Int32) (σ : zS), k14 x1 x2 σ = some out → V l d F 0 0 (MW d h σ) [some (.ref (h 0)), some (.int x1), some (.int x2), none] 14 []) (x1 : Int32) (x2 : Int32) (σ : zS) (hf : f_M_eRead_14b k14 x1 x2 σ = some out) : V l d F 0 0 (MW d h σ) [some (.ref (h 0)), some (.int x1), some (.int x2), none] 14 [] := by
  unfold f_M_eRead_14b at hf
  refine zr_aload_n 0 15 C (by decide +kernel) rfl rfl ?_
  refine k_M_next (idx := 200) 18 C (by decide +kernel) rfl q_1201 (zb2 rfl rfl) (Nat.le_of_ble_eq_true rfl) hf (fun _ σ1 hf => ?_)
  refine zr_iload_n 1 19 C (by decide +kernel) rfl rfl ?_
  refine zr_if_eq (off := 131) 150 22 C (by decide +kernel) (by decide) rfl hf (fun hf => ?_) (fun hf => ?_)
  · refine zr_aload_n 0 151 C (by decide +kernel) rfl rfl ?_
    refine mg_0_37 (idx := 168) 154 C (by decide +kernel) rfl q_1028 ?_
    refine zr_bipush (v := 59) 59 156 C (by decide +kernel) rfl rfl ?_
    refine zr_icmp_ne (off := 21) 177 159 C (by decide +kernel) (by decide) rfl hf (fun hf => ?_) (fun hf => ?_)
    · refine zr_aload_n 0 178 C (by decide +kernel) rfl rfl ?_
      refine mg_0_37 (idx := 168) 181 C (by decide +kernel) rfl q_1028 ?_
      refine zr_bipush (v := 41) 41 183 C (by decide +kernel) rfl rfl ?_
      refine zr_icmp_ne (off := 46) 229 186 C (by decide +kernel) (by decide) rfl hf (fun hf => ?_) (fun hf => ?_)
      · refine zr_aload_n 0 230 C (by decide +kernel) rfl rfl ?_
        refine k_M_signOf (idx := 207) 233 C (by decide +kernel) rfl q_1233 (zb2 rfl rfl) (Nat.le_of_ble_eq_true rfl) hf (fun r3 σ2 hf => ?_)
        refine zr_istore_n 3 [some (.ref (h 0)), some (.int x1), some (.int x2), some (.int r3)] 234 C (by decide +kernel) rfl (by decide) rfl rfl ?_
        refine zr_iload_n 3 235 C (by decide +kernel) rfl rfl ?_
        refine zr_iconst (v := (-1)) (-1) 236 C (by decide +kernel) rfl rfl ?_
        refine zr_icmp_eq (off := 11) 247 239 C (by decide +kernel) (by decide) rfl hf (fun hf => ?_) (fun hf => ?_)
        · refine zr_iconst (v := 0) 0 248 C (by decide +kernel) rfl rfl ?_
          obtain rfl := Option.some.inj hf
          exact zr_zret C (by decide +kernel) rfl T
        · refine zr_aload_n 0 240 C (by decide +kernel) rfl rfl ?_
          refine zr_iload_n 3 241 C (by decide +kernel) rfl rfl ?_
          refine k_M_between (idx := 211) 244 C (by decide +kernel) rfl q_1237 (zb2 rfl rfl) (Nat.le_of_ble_eq_true rfl) hf (fun r5 σ4 hf => ?_)
          refine zr_if_ne (off := 5) 249 247 C (by decide +kernel) (by decide) rfl hf (fun hf => ?_) (fun hf => ?_)
          · refine zr_iconst (v := 1) 1 250 C (by decide +kernel) rfl rfl ?_
            refine zr_istore_n 1 [some (.ref (h 0)), some (.int 1), some (.int x2), some (.int r3)] 251 C (by decide +kernel) rfl (by decide) rfl rfl ?_
            refine zr_iload_n 3 252 C (by decide +kernel) rfl rfl ?_
            refine zr_bipush (v := 12) 12 254 C (by decide +kernel) rfl rfl ?_
            refine zr_icmp_gt (off := 7) 261 257 C (by decide +kernel) (by decide) rfl hf (fun hf => ?_) (fun hf => ?_)
            · refine zr_iconst (v := 0) 0 262 C (by decide +kernel) rfl rfl ?_
              refine zr_less (zA (zA (zN (zN zE)))) ?_
              exact w_M_eRead_262 C T H14 _ _ _ hf
            · refine zr_iconst (v := 1) 1 258 C (by decide +kernel) rfl rfl ?_
              refine zr_goto (off := 4) 262 C (by decide +kernel) (by decide) ?_
              refine zr_less (zA (zA (zN (zN zE)))) ?_
              exact w_M_eRead_262 C T H14 _ _ _ hf
          · refine zr_iconst (v := 0) 0 248 C (by decide +kernel) rfl rfl ?_
            obtain rfl := Option.some.inj hf
            exact zr_zret C (by decide +kernel) rfl T
      · refine zr_aload_n 0 187 C (by decide +kernel) rfl rfl ?_
        refine zr_iconst (v := 1) 1 188 C (by decide +kernel) rfl rfl ?_
        refine k_M_unwinds (idx := 197) 191 C (by decide +kernel) rfl q_1218 (zb2 rfl rfl) (Nat.le_of_ble_eq_true rfl) hf (fun _ σ6 hf => ?_)
        refine zr_aload_n 0 192 C (by decide +kernel) rfl rfl ?_
        refine mg_0_41 (idx := 181) 195 C (by decide +kernel) rfl q_1032 ?_
        refine zr_if_ne (off := 5) 200 198 C (by decide +kernel) (by decide) rfl hf (fun hf => ?_) (fun hf => ?_)
        · refine zr_aload_n 0 201 C (by decide +kernel) rfl rfl ?_
          refine zr_dup 202 C (by decide +kernel) rfl rfl ?_
          refine mg_0_41 (idx := 181) 205 C (by decide +kernel) rfl q_1032 ?_
          refine zr_iconst (v := 1) 1 206 C (by decide +kernel) rfl rfl ?_
          refine zr_isub 207 C (by decide +kernel) rfl ?_
          refine mp_0_41 (idx := 181) 210 C (by decide +kernel) rfl q_1032 hf (fun σ7 hf => ?_)
          refine zr_aload_n 0 211 C (by decide +kernel) rfl rfl ?_
          refine zr_dup 212 C (by decide +kernel) rfl rfl ?_
          refine mg_0_42 (idx := 187) 215 C (by decide +kernel) rfl q_1033 ?_
          refine zr_iconst (v := 1) 1 216 C (by decide +kernel) rfl rfl ?_
          refine zr_isub 217 C (by decide +kernel) rfl ?_
          refine mp_0_42 (idx := 187) 220 C (by decide +kernel) rfl q_1033 hf (fun σ8 hf => ?_)
          refine zr_aload_n 0 221 C (by decide +kernel) rfl rfl ?_
          refine zr_bipush (v := 7) 7 223 C (by decide +kernel) rfl rfl ?_
          refine k_M_unwinds (idx := 197) 226 C (by decide +kernel) rfl q_1218 (zb2 rfl rfl) (Nat.le_of_ble_eq_true rfl) hf (fun _ σ9 hf => ?_)
          refine zr_goto (off := -212) 14 C (by decide +kernel) (by decide) ?_
          exact H14 _ _ _ hf
        · refine zr_iconst (v := 0) 0 199 C (by decide +kernel) rfl rfl ?_
          obtain rfl := Option.some.inj hf
          exact zr_zret C (by decide +kernel) rfl T
    · refine zr_aload_n 0 160 C (by decide +kernel) rfl rfl ?_
      refine zr_iconst (v := 1) 1 161 C (by decide +kernel) rfl rfl ?_
      refine k_M_unwinds (idx := 197) 164 C (by decide +kernel) rfl q_1218 (zb2 rfl rfl) (Nat.le_of_ble_eq_true rfl) hf (fun _ σ10 hf => ?_)
      refine zr_aload_n 0 165 C (by decide +kernel) rfl rfl ?_
      refine mg_0_41 (idx := 181) 168 C (by decide +kernel) rfl q_1032 ?_
      refine zr_if_ne (off := 7) 175 171 C (by decide +kernel) (by decide) rfl hf (fun hf => ?_) (fun hf => ?_)
      · refine zr_iconst (v := 0) 0 176 C (by decide +kernel) rfl rfl ?_
        obtain rfl := Option.some.inj hf
        exact zr_zret C (by decide +kernel) rfl T
      · refine zr_iconst (v := 1) 1 172 C (by decide +kernel) rfl rfl ?_
        refine zr_goto (off := 4) 176 C (by decide +kernel) (by decide) ?_
        obtain rfl := Option.some.inj hf
        exact zr_zret C (by decide +kernel) rfl T
  · refine zr_aload_n 0 23 C (by decide +kernel) rfl rfl ?_
    refine mg_0_37 (idx := 168) 26 C (by decide +kernel) rfl q_1028 ?_
    refine zr_iconst (v := 1) 1 27 C (by decide +kernel) rfl rfl ?_
    refine zr_icmp_eq (off := 11) 38 30 C (by decide +kernel) (by decide) rfl hf (fun hf => ?_) (fun hf => ?_)
    · refine zr_less (zA (zN (zA (zN zE)))) ?_
      exact w_M_eRead_38 C T H14 _ _ hf
    · refine zr_aload_n 0 31 C (by decide +kernel) rfl rfl ?_
      refine mg_0_37 (idx := 168) 34 C (by decide +kernel) rfl q_1028 ?_
      refine zr_iconst (v := 2) 2 35 C (by decide +kernel) rfl rfl ?_
      refine zr_icmp_ne (off := 40) 75 38 C (by decide +kernel) (by decide) rfl hf (fun hf => ?_) (fun hf => ?_)
      · refine zr_aload_n 0 76 C (by decide +kernel) rfl rfl ?_
        refine mg_0_37 (idx := 168) 79 C (by decide +kernel) rfl q_1028 ?_
        refine zr_bipush (v := 6) 6 81 C (by decide +kernel) rfl rfl ?_
        refine zr_icmp_ne (off := 18) 99 84 C (by decide +kernel) (by decide) rfl hf (fun hf => ?_) (fun hf => ?_)
        · refine zr_less (zA (zA (zN (zN zE)))) ?_
          exact w_M_eRead_99 C T H14 _ _ hf
        · refine zr_iload_n 2 85 C (by decide +kernel) rfl rfl ?_
          refine zr_if_eq (off := 14) 99 88 C (by decide +kernel) (by decide) rfl hf (fun hf => ?_) (fun hf => ?_)
          · refine zr_less (zA (zA (zN (zN zE)))) ?_
            exact w_M_eRead_99 C T H14 _ _ hf
          · refine zr_aload_n 0 89 C (by decide +kernel) rfl rfl ?_
            refine zr_bipush (v := 13) 13 91 C (by decide +kernel) rfl rfl ?_
            refine k_M_opensOne (idx := 204) 94 C (by decide +kernel) rfl q_1225 (zb2 rfl rfl) (Nat.le_of_ble_eq_true rfl) hf (fun r12 σ11 hf => ?_)
            refine zr_if_ne (off := -80) 14 97 C (by decide +kernel) (by decide) rfl hf (fun hf => ?_) (fun hf => ?_)
            · exact H14 _ _ _ hf
            · refine zr_iconst (v := 0) 0 98 C (by decide +kernel) rfl rfl ?_
              obtain rfl := Option.some.inj hf
              exact zr_zret C (by decide +kernel) rfl T
      · refine zr_less (zA (zN (zA (zN zE)))) ?_
        exact w_M_eRead_38 C T H14 _ _ hf
def f_M_eRead_14  : Nat → Int32 → Int32 → zS → Option (Int32 × zS)
  | 0, _, _, _ => none
  | n + 1, x1, x2,  σ => f_M_eRead_14b (fun x1 x2 σ => f_M_eRead_14  n x1 x2 σ) x1 x2 σ
theorem w_M_eRead_14 {l : Launch} {d : zD} {F : zF} {h : Nat → Nat} {out : Int32 × zS}   (C : zOk d F RX11 cX11_eRead 4 3 69) (T : zRt d F (some .boolean) (some (.int out.1)) (MW d h out.2))  : ∀ (n : Nat) (x1 : Int32) (x2 : Int32) (σ : zS), f_M_eRead_14  n x1 x2 σ = some out → V l d F 0 0 (MW d h σ) [some (.ref (h 0)), some (.int x1), some (.int x2), none] 14 [] := by
  intro n
  induction n with
  | zero =>
    intro x1 x2 σ hf
    cases hf
  | succ n ih =>
    intro x1 x2 σ hf
    exact w_M_eRead_14b C T ih x1 x2 σ hf
def f_M_eRead  (σ : zS) : Option (Int32 × zS) :=
  zlt (zsg σ 41 0) fun σ1 =>
  zlt (zsg σ1 42 0) fun σ2 =>
  f_M_eRead_14 zfu 1 1 σ2
set_option maxRecDepth 4000 in
theorem m_M_eRead {l : Launch} {d : zD} {h : Nat → Nat} {out : Int32 × zS} {σ : zS}  (hf : f_M_eRead  σ = some out) : zM l yX11_eRead cX11_eRead 4 (some .boolean) 3 69 d [.ref (h 0)] (MW d h σ) (MW d h out.2) (some (.int out.1)) := by
  refine zM_of [some (.ref (h 0)), none, none, none] (by decide +kernel) rfl (Nat.le_of_ble_eq_true rfl) (fun F C T => ?_)
  unfold f_M_eRead at hf
  refine zr_aload_n 0 1 C (by decide +kernel) rfl rfl ?_
  refine zr_iconst (v := 0) 0 2 C (by decide +kernel) rfl rfl ?_
  refine mp_0_41 (idx := 181) 5 C (by decide +kernel) rfl q_1032 hf (fun σ1 hf => ?_)
  refine zr_aload_n 0 6 C (by decide +kernel) rfl rfl ?_
  refine zr_iconst (v := 0) 0 7 C (by decide +kernel) rfl rfl ?_
  refine mp_0_42 (idx := 187) 10 C (by decide +kernel) rfl q_1033 hf (fun σ2 hf => ?_)
  refine zr_iconst (v := 1) 1 11 C (by decide +kernel) rfl rfl ?_
  refine zr_istore_n 1 [some (.ref (h 0)), some (.int 1), none, none] 12 C (by decide +kernel) rfl (by decide) rfl rfl ?_
  refine zr_iconst (v := 1) 1 13 C (by decide +kernel) rfl rfl ?_
  refine zr_istore_n 2 [some (.ref (h 0)), some (.int 1), some (.int 1), none] 14 C (by decide +kernel) rfl (by decide) rfl rfl ?_
  exact w_M_eRead_14 C T zfu _ _ _ hf
theorem y_M_eRead : zY yX11_eRead cX11_eRead 4 (some .boolean) 0 := ⟨q_1212, q_90, by decide +kernel, by decide +kernel, by decide +kernel⟩
theorem k_M_eRead {l : Launch} {d : zD} {F : zF} {h : Nat → Nat} {σ : zS} {lv : List (Option Value)} {pc : Nat} {own : String} {cc : ByteArray} {nL fr lo idx : Nat} {rest : List Value} {β : Type} {kf : Int32 → zS → Option β} {o2 : β}   (pc' : Nat) (C : zOk d F own cc nL fr lo) (hd : decode cc pc = .ok (.invokevirtual idx, 3)) (hp : pc + 3 = pc') (hq : Cond.methodLink own idx yX11_eRead ∈ zW) (hm : 3 + 1 ≤ fr ∧ 8 + (4 + 11) + 69 ≤ lo) (hr : (rest.map fun v => v.category).sum ≤ 8) (hf : zbd (f_M_eRead  σ) kf = some o2) (K : ∀ (r : Int32) (σ' : zS), kf r σ' = some o2 → V l d F 0 0 (MW d h σ') lv pc' (.int r :: rest)) : V l d F 0 0 (MW d h σ) lv pc (.ref (h 0) :: rest) := by
  obtain ⟨q, h1, h2⟩ := zbd_some hf
  exact zr_callV y_M_eRead ⟨q_1211, q_40⟩ 0 rfl rfl (As := []) (m_M_eRead h1) rfl rfl pc' C hd hp hq hm hr (K _ _ h2)
