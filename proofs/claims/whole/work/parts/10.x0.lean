/-! StepsBeyond.isFrom(III)Z -/
def f_X_isFrom (p0 : Int32) (p1 : Int32) (p2 : Int32) (σ : zS) : Option (Int32 × zS) :=
  (if p0 < p1 then
  some (0, σ)
  else
  (if p2 < p0 then
  some (0, σ)
  else
  some (1, σ)))
set_option maxRecDepth 4000 in
theorem m_X_isFrom {l : Launch} {d : zD} {h : Nat → Nat} {out : Int32 × zS} {σ : zS} {ad av : Nat → Nat} {p0 : Int32} {p1 : Int32} {p2 : Int32} (E : zXe d ad av) (hf : f_X_isFrom p0 p1 p2 σ = some out) : zM l yX10_isFrom cX10_isFrom 3 (some .boolean) 0 0 d [.int p0, .int p1, .int p2] (XW d h σ) (XW d h out.2) (some (.int out.1)) := by
  refine zM_of [some (.int p0), some (.int p1), some (.int p2)] (by decide +kernel) rfl (Nat.le_of_ble_eq_true rfl) (fun F C T => ?_)
  unfold f_X_isFrom at hf
  refine zr_iload_n 0 1 C (by decide +kernel) rfl rfl ?_
  refine zr_iload_n 1 2 C (by decide +kernel) rfl rfl ?_
  refine zr_icmp_lt (off := 12) 14 5 C (by decide +kernel) (by decide) rfl hf (fun hf => ?_) (fun hf => ?_)
  · refine zr_iconst (v := 0) 0 15 C (by decide +kernel) rfl rfl ?_
    obtain rfl := Option.some.inj hf
    exact zr_zret C (by decide +kernel) rfl T
  · refine zr_iload_n 0 6 C (by decide +kernel) rfl rfl ?_
    refine zr_iload_n 2 7 C (by decide +kernel) rfl rfl ?_
    refine zr_icmp_gt (off := 7) 14 10 C (by decide +kernel) (by decide) rfl hf (fun hf => ?_) (fun hf => ?_)
    · refine zr_iconst (v := 0) 0 15 C (by decide +kernel) rfl rfl ?_
      obtain rfl := Option.some.inj hf
      exact zr_zret C (by decide +kernel) rfl T
    · refine zr_iconst (v := 1) 1 11 C (by decide +kernel) rfl rfl ?_
      refine zr_goto (off := 4) 15 C (by decide +kernel) (by decide) ?_
      obtain rfl := Option.some.inj hf
      exact zr_zret C (by decide +kernel) rfl T
theorem y_X_isFrom : zY yX10_isFrom cX10_isFrom 3 (some .boolean) 3 := ⟨q_617, q_72, by decide +kernel, by decide +kernel, by decide +kernel⟩
theorem k_X_isFrom {l : Launch} {d : zD} {F : zF} {h : Nat → Nat} {σ : zS} {lv : List (Option Value)} {pc : Nat} {own : String} {cc : ByteArray} {nL fr lo idx : Nat} {rest : List Value} {β : Type} {kf : Int32 → zS → Option β} {o2 : β} {ad av : Nat → Nat}  {p0 : Int32} {p1 : Int32} {p2 : Int32} (pc' : Nat) (C : zOk d F own cc nL fr lo) (E : zXe d ad av) (hd : decode cc pc = .ok (.invokestatic idx, 3)) (hp : pc + 3 = pc') (hq : Cond.methodLink own idx yX10_isFrom ∈ zW) (hm : 0 + 1 ≤ fr ∧ 8 + (3 + 11) + 0 ≤ lo) (hr : (rest.map fun v => v.category).sum ≤ 8) (hf : zbd (f_X_isFrom p0 p1 p2 σ) kf = some o2) (K : ∀ (r : Int32) (σ' : zS), kf r σ' = some o2 → V l d F 0 0 (XW d h σ') lv pc' (.int r :: rest)) : V l d F 0 0 (XW d h σ) lv pc (.int p2 :: .int p1 :: .int p0 :: rest) := by
  obtain ⟨q, h1, h2⟩ := zbd_some hf
  exact zr_callS y_X_isFrom q_616 (As := [.int p0, .int p1, .int p2]) (m_X_isFrom E h1) rfl rfl pc' C hd hp hq hm hr (K _ _ h2)
theorem kN_X_isFrom {l : Launch} {d : zD} {F : zF} {h : Nat → Nat} {σ : zS} {lv : List (Option Value)} {pc : Nat} {own : String} {cc : ByteArray} {nL fr lo idx : Nat} {rest : List Value} {β : Type} {kf : Int32 → zS → Option β} {o2 : β} {ad av : Nat → Nat}  {p0 : Int32} {p1 : Int32} {p2 : Int32} {host : String} (pc' : Nat) (C : zOk d F own cc nL fr lo) (E : zXe d ad av) (hd : decode cc pc = .ok (.invokestatic idx, 3)) (hp : pc + 3 = pc') (hq : ∀ A U, d.2.2.2.2.2 A U → va_Nw (.methodLinkNest own idx yX10_isFrom host) U) (hm : 0 + 1 ≤ fr ∧ 8 + (3 + 11) + 0 ≤ lo) (hr : (rest.map fun v => v.category).sum ≤ 8) (hf : zbd (f_X_isFrom p0 p1 p2 σ) kf = some o2) (K : ∀ (r : Int32) (σ' : zS), kf r σ' = some o2 → V l d F 0 0 (XW d h σ') lv pc' (.int r :: rest)) : V l d F 0 0 (XW d h σ) lv pc (.int p2 :: .int p1 :: .int p0 :: rest) := by
  obtain ⟨q, h1, h2⟩ := zbd_some hf
  exact zr_callSN y_X_isFrom q_616 (As := [.int p0, .int p1, .int p2]) (m_X_isFrom E h1) rfl rfl pc' C hd hp hq hm hr (K _ _ h2)
/-! StepsBeyond.isPlace(I)Z -/
def f_X_isPlace (p0 : Int32) (σ : zS) : Option (Int32 × zS) :=
  zbd (f_X_isFrom p0 0 1599 σ) fun r2 σ1 =>
  zbo r2 (some (r2, σ1))
set_option maxRecDepth 4000 in
theorem m_X_isPlace {l : Launch} {d : zD} {h : Nat → Nat} {out : Int32 × zS} {σ : zS} {ad av : Nat → Nat} {p0 : Int32} (E : zXe d ad av) (hf : f_X_isPlace p0 σ = some out) : zM l yX10_isPlace cX10_isPlace 1 (some .boolean) 1 22 d [.int p0] (XW d h σ) (XW d h out.2) (some (.int out.1)) := by
  refine zM_of [some (.int p0)] (by decide +kernel) rfl (Nat.le_of_ble_eq_true rfl) (fun F C T => ?_)
  unfold f_X_isPlace at hf
  refine zr_iload_n 0 1 C (by decide +kernel) rfl rfl ?_
  refine zr_iconst (v := 0) 0 2 C (by decide +kernel) rfl rfl ?_
  refine zr_sipush (v := 1599) 1599 5 C (by decide +kernel) rfl rfl ?_
  refine k_X_isFrom (idx := 159) 8 C E (by decide +kernel) rfl q_615 (zb2 rfl rfl) (Nat.le_of_ble_eq_true rfl) hf (fun r2 σ1 hf => ?_)
  obtain ⟨hz, hf⟩ := zbo_some hf
  obtain rfl := Option.some.inj hf
  exact zr_zret C (by decide +kernel) hz T
theorem y_X_isPlace : zY yX10_isPlace cX10_isPlace 1 (some .boolean) 1 := ⟨q_614, q_72, by decide +kernel, by decide +kernel, by decide +kernel⟩
theorem k_X_isPlace {l : Launch} {d : zD} {F : zF} {h : Nat → Nat} {σ : zS} {lv : List (Option Value)} {pc : Nat} {own : String} {cc : ByteArray} {nL fr lo idx : Nat} {rest : List Value} {β : Type} {kf : Int32 → zS → Option β} {o2 : β} {ad av : Nat → Nat}  {p0 : Int32} (pc' : Nat) (C : zOk d F own cc nL fr lo) (E : zXe d ad av) (hd : decode cc pc = .ok (.invokestatic idx, 3)) (hp : pc + 3 = pc') (hq : Cond.methodLink own idx yX10_isPlace ∈ zW) (hm : 1 + 1 ≤ fr ∧ 8 + (1 + 11) + 22 ≤ lo) (hr : (rest.map fun v => v.category).sum ≤ 8) (hf : zbd (f_X_isPlace p0 σ) kf = some o2) (K : ∀ (r : Int32) (σ' : zS), kf r σ' = some o2 → V l d F 0 0 (XW d h σ') lv pc' (.int r :: rest)) : V l d F 0 0 (XW d h σ) lv pc (.int p0 :: rest) := by
  obtain ⟨q, h1, h2⟩ := zbd_some hf
  exact zr_callS y_X_isPlace q_613 (As := [.int p0]) (m_X_isPlace E h1) rfl rfl pc' C hd hp hq hm hr (K _ _ h2)
/-! StepsBeyond.isBit(I)Z -/
def f_X_isBit (p0 : Int32) (σ : zS) : Option (Int32 × zS) :=
  zbd (f_X_isFrom p0 0 1 σ) fun r2 σ1 =>
  zbo r2 (some (r2, σ1))
set_option maxRecDepth 4000 in
theorem m_X_isBit {l : Launch} {d : zD} {h : Nat → Nat} {out : Int32 × zS} {σ : zS} {ad av : Nat → Nat} {p0 : Int32} (E : zXe d ad av) (hf : f_X_isBit p0 σ = some out) : zM l yX10_isBit cX10_isBit 1 (some .boolean) 1 22 d [.int p0] (XW d h σ) (XW d h out.2) (some (.int out.1)) := by
  refine zM_of [some (.int p0)] (by decide +kernel) rfl (Nat.le_of_ble_eq_true rfl) (fun F C T => ?_)
  unfold f_X_isBit at hf
  refine zr_iload_n 0 1 C (by decide +kernel) rfl rfl ?_
  refine zr_iconst (v := 0) 0 2 C (by decide +kernel) rfl rfl ?_
  refine zr_iconst (v := 1) 1 3 C (by decide +kernel) rfl rfl ?_
  refine k_X_isFrom (idx := 159) 6 C E (by decide +kernel) rfl q_615 (zb2 rfl rfl) (Nat.le_of_ble_eq_true rfl) hf (fun r2 σ1 hf => ?_)
  obtain ⟨hz, hf⟩ := zbo_some hf
  obtain rfl := Option.some.inj hf
  exact zr_zret C (by decide +kernel) hz T
theorem y_X_isBit : zY yX10_isBit cX10_isBit 1 (some .boolean) 1 := ⟨q_620, q_72, by decide +kernel, by decide +kernel, by decide +kernel⟩
theorem k_X_isBit {l : Launch} {d : zD} {F : zF} {h : Nat → Nat} {σ : zS} {lv : List (Option Value)} {pc : Nat} {own : String} {cc : ByteArray} {nL fr lo idx : Nat} {rest : List Value} {β : Type} {kf : Int32 → zS → Option β} {o2 : β} {ad av : Nat → Nat}  {p0 : Int32} (pc' : Nat) (C : zOk d F own cc nL fr lo) (E : zXe d ad av) (hd : decode cc pc = .ok (.invokestatic idx, 3)) (hp : pc + 3 = pc') (hq : Cond.methodLink own idx yX10_isBit ∈ zW) (hm : 1 + 1 ≤ fr ∧ 8 + (1 + 11) + 22 ≤ lo) (hr : (rest.map fun v => v.category).sum ≤ 8) (hf : zbd (f_X_isBit p0 σ) kf = some o2) (K : ∀ (r : Int32) (σ' : zS), kf r σ' = some o2 → V l d F 0 0 (XW d h σ') lv pc' (.int r :: rest)) : V l d F 0 0 (XW d h σ) lv pc (.int p0 :: rest) := by
  obtain ⟨q, h1, h2⟩ := zbd_some hf
  exact zr_callS y_X_isBit q_619 (As := [.int p0]) (m_X_isBit E h1) rfl rfl pc' C hd hp hq hm hr (K _ _ h2)
/-! StepsBeyond.isSheet(I)Z -/
def f_X_isSheet (p0 : Int32) (σ : zS) : Option (Int32 × zS) :=
  zbd (f_X_isFrom p0 0 3 σ) fun r2 σ1 =>
  zbo r2 (some (r2, σ1))
set_option maxRecDepth 4000 in
theorem m_X_isSheet {l : Launch} {d : zD} {h : Nat → Nat} {out : Int32 × zS} {σ : zS} {ad av : Nat → Nat} {p0 : Int32} (E : zXe d ad av) (hf : f_X_isSheet p0 σ = some out) : zM l yX10_isSheet cX10_isSheet 1 (some .boolean) 1 22 d [.int p0] (XW d h σ) (XW d h out.2) (some (.int out.1)) := by
  refine zM_of [some (.int p0)] (by decide +kernel) rfl (Nat.le_of_ble_eq_true rfl) (fun F C T => ?_)
  unfold f_X_isSheet at hf
  refine zr_iload_n 0 1 C (by decide +kernel) rfl rfl ?_
  refine zr_iconst (v := 0) 0 2 C (by decide +kernel) rfl rfl ?_
  refine zr_iconst (v := 3) 3 3 C (by decide +kernel) rfl rfl ?_
  refine k_X_isFrom (idx := 159) 6 C E (by decide +kernel) rfl q_615 (zb2 rfl rfl) (Nat.le_of_ble_eq_true rfl) hf (fun r2 σ1 hf => ?_)
  obtain ⟨hz, hf⟩ := zbo_some hf
  obtain rfl := Option.some.inj hf
  exact zr_zret C (by decide +kernel) hz T
theorem y_X_isSheet : zY yX10_isSheet cX10_isSheet 1 (some .boolean) 1 := ⟨q_924, q_72, by decide +kernel, by decide +kernel, by decide +kernel⟩
theorem k_X_isSheet {l : Launch} {d : zD} {F : zF} {h : Nat → Nat} {σ : zS} {lv : List (Option Value)} {pc : Nat} {own : String} {cc : ByteArray} {nL fr lo idx : Nat} {rest : List Value} {β : Type} {kf : Int32 → zS → Option β} {o2 : β} {ad av : Nat → Nat}  {p0 : Int32} (pc' : Nat) (C : zOk d F own cc nL fr lo) (E : zXe d ad av) (hd : decode cc pc = .ok (.invokestatic idx, 3)) (hp : pc + 3 = pc') (hq : Cond.methodLink own idx yX10_isSheet ∈ zW) (hm : 1 + 1 ≤ fr ∧ 8 + (1 + 11) + 22 ≤ lo) (hr : (rest.map fun v => v.category).sum ≤ 8) (hf : zbd (f_X_isSheet p0 σ) kf = some o2) (K : ∀ (r : Int32) (σ' : zS), kf r σ' = some o2 → V l d F 0 0 (XW d h σ') lv pc' (.int r :: rest)) : V l d F 0 0 (XW d h σ) lv pc (.int p0 :: rest) := by
  obtain ⟨q, h1, h2⟩ := zbd_some hf
  exact zr_callS y_X_isSheet q_923 (As := [.int p0]) (m_X_isSheet E h1) rfl rfl pc' C hd hp hq hm hr (K _ _ h2)
/-! StepsBeyond.has(II)Z -/
def f_X_has (p0 : Int32) (p1 : Int32) (σ : zS) : Option (Int32 × zS) :=
  (if ((zshr p0 p1) &&& 1) = 0 then
  some (0, σ)
  else
  some (1, σ))
set_option maxRecDepth 4000 in
theorem m_X_has {l : Launch} {d : zD} {h : Nat → Nat} {out : Int32 × zS} {σ : zS} {ad av : Nat → Nat} {p0 : Int32} {p1 : Int32} (E : zXe d ad av) (hf : f_X_has p0 p1 σ = some out) : zM l yX10_has cX10_has 2 (some .boolean) 0 0 d [.int p0, .int p1] (XW d h σ) (XW d h out.2) (some (.int out.1)) := by
  refine zM_of [some (.int p0), some (.int p1)] (by decide +kernel) rfl (Nat.le_of_ble_eq_true rfl) (fun F C T => ?_)
  unfold f_X_has at hf
  refine zr_iload_n 0 1 C (by decide +kernel) rfl rfl ?_
  refine zr_iload_n 1 2 C (by decide +kernel) rfl rfl ?_
  refine zr_ishr 3 C (by decide +kernel) rfl ?_
  refine zr_iconst (v := 1) 1 4 C (by decide +kernel) rfl rfl ?_
  refine zr_iand 5 C (by decide +kernel) rfl ?_
  refine zr_if_eq (off := 7) 12 8 C (by decide +kernel) (by decide) rfl hf (fun hf => ?_) (fun hf => ?_)
  · refine zr_iconst (v := 0) 0 13 C (by decide +kernel) rfl rfl ?_
    obtain rfl := Option.some.inj hf
    exact zr_zret C (by decide +kernel) rfl T
  · refine zr_iconst (v := 1) 1 9 C (by decide +kernel) rfl rfl ?_
    refine zr_goto (off := 4) 13 C (by decide +kernel) (by decide) ?_
    obtain rfl := Option.some.inj hf
    exact zr_zret C (by decide +kernel) rfl T
theorem y_X_has : zY yX10_has cX10_has 2 (some .boolean) 2 := ⟨q_640, q_72, by decide +kernel, by decide +kernel, by decide +kernel⟩
theorem k_X_has {l : Launch} {d : zD} {F : zF} {h : Nat → Nat} {σ : zS} {lv : List (Option Value)} {pc : Nat} {own : String} {cc : ByteArray} {nL fr lo idx : Nat} {rest : List Value} {β : Type} {kf : Int32 → zS → Option β} {o2 : β} {ad av : Nat → Nat}  {p0 : Int32} {p1 : Int32} (pc' : Nat) (C : zOk d F own cc nL fr lo) (E : zXe d ad av) (hd : decode cc pc = .ok (.invokestatic idx, 3)) (hp : pc + 3 = pc') (hq : Cond.methodLink own idx yX10_has ∈ zW) (hm : 0 + 1 ≤ fr ∧ 8 + (2 + 11) + 0 ≤ lo) (hr : (rest.map fun v => v.category).sum ≤ 8) (hf : zbd (f_X_has p0 p1 σ) kf = some o2) (K : ∀ (r : Int32) (σ' : zS), kf r σ' = some o2 → V l d F 0 0 (XW d h σ') lv pc' (.int r :: rest)) : V l d F 0 0 (XW d h σ) lv pc (.int p1 :: .int p0 :: rest) := by
  obtain ⟨q, h1, h2⟩ := zbd_some hf
  exact zr_callS y_X_has q_639 (As := [.int p0, .int p1]) (m_X_has E h1) rfl rfl pc' C hd hp hq hm hr (K _ _ h2)
theorem kN_X_has {l : Launch} {d : zD} {F : zF} {h : Nat → Nat} {σ : zS} {lv : List (Option Value)} {pc : Nat} {own : String} {cc : ByteArray} {nL fr lo idx : Nat} {rest : List Value} {β : Type} {kf : Int32 → zS → Option β} {o2 : β} {ad av : Nat → Nat}  {p0 : Int32} {p1 : Int32} {host : String} (pc' : Nat) (C : zOk d F own cc nL fr lo) (E : zXe d ad av) (hd : decode cc pc = .ok (.invokestatic idx, 3)) (hp : pc + 3 = pc') (hq : ∀ A U, d.2.2.2.2.2 A U → va_Nw (.methodLinkNest own idx yX10_has host) U) (hm : 0 + 1 ≤ fr ∧ 8 + (2 + 11) + 0 ≤ lo) (hr : (rest.map fun v => v.category).sum ≤ 8) (hf : zbd (f_X_has p0 p1 σ) kf = some o2) (K : ∀ (r : Int32) (σ' : zS), kf r σ' = some o2 → V l d F 0 0 (XW d h σ') lv pc' (.int r :: rest)) : V l d F 0 0 (XW d h σ) lv pc (.int p1 :: .int p0 :: rest) := by
  obtain ⟨q, h1, h2⟩ := zbd_some hf
  exact zr_callSN y_X_has q_639 (As := [.int p0, .int p1]) (m_X_has E h1) rfl rfl pc' C hd hp hq hm hr (K _ _ h2)
/-! StepsBeyond.apart(II)I -/
def f_X_apart (p0 : Int32) (p1 : Int32) (σ : zS) : Option (Int32 × zS) :=
  some ((zabs ((zrem p0 40) - (zrem p1 40))) + (zabs ((p0 / 40) - (p1 / 40))), σ)
set_option maxRecDepth 4000 in
theorem m_X_apart {l : Launch} {d : zD} {h : Nat → Nat} {out : Int32 × zS} {σ : zS} {ad av : Nat → Nat} {p0 : Int32} {p1 : Int32} (E : zXe d ad av) (hf : f_X_apart p0 p1 σ = some out) : zM l yX10_apart cX10_apart 2 (some .int) 1 21 d [.int p0, .int p1] (XW d h σ) (XW d h out.2) (some (.int out.1)) := by
  refine zM_of [some (.int p0), some (.int p1)] (by decide +kernel) rfl (Nat.le_of_ble_eq_true rfl) (fun F C T => ?_)
  unfold f_X_apart at hf
  refine zr_iload_n 0 1 C (by decide +kernel) rfl rfl ?_
  refine zr_bipush (v := 40) 40 3 C (by decide +kernel) rfl rfl ?_
  refine zr_irem 4 C (by decide +kernel) rfl (by decide) ?_
  refine zr_iload_n 1 5 C (by decide +kernel) rfl rfl ?_
  refine zr_bipush (v := 40) 40 7 C (by decide +kernel) rfl rfl ?_
  refine zr_irem 8 C (by decide +kernel) rfl (by decide) ?_
  refine zr_isub 9 C (by decide +kernel) rfl ?_
  refine zr_mabs (idx := 307) 12 C (by decide +kernel) rfl q_773 (zb2 rfl rfl) (Nat.le_of_ble_eq_true rfl) ?_
  refine zr_iload_n 0 13 C (by decide +kernel) rfl rfl ?_
  refine zr_bipush (v := 40) 40 15 C (by decide +kernel) rfl rfl ?_
  refine zr_idiv 16 C (by decide +kernel) rfl (by decide) ?_
  refine zr_iload_n 1 17 C (by decide +kernel) rfl rfl ?_
  refine zr_bipush (v := 40) 40 19 C (by decide +kernel) rfl rfl ?_
  refine zr_idiv 20 C (by decide +kernel) rfl (by decide) ?_
  refine zr_isub 21 C (by decide +kernel) rfl ?_
  refine zr_mabs (idx := 307) 24 C (by decide +kernel) rfl q_773 (zb2 rfl rfl) (Nat.le_of_ble_eq_true rfl) ?_
  refine zr_iadd 25 C (by decide +kernel) rfl ?_
  obtain rfl := Option.some.inj hf
  exact zr_iret C (by decide +kernel) T
theorem y_X_apart : zY yX10_apart cX10_apart 2 (some .int) 2 := ⟨q_772, q_72, by decide +kernel, by decide +kernel, by decide +kernel⟩
theorem k_X_apart {l : Launch} {d : zD} {F : zF} {h : Nat → Nat} {σ : zS} {lv : List (Option Value)} {pc : Nat} {own : String} {cc : ByteArray} {nL fr lo idx : Nat} {rest : List Value} {β : Type} {kf : Int32 → zS → Option β} {o2 : β} {ad av : Nat → Nat}  {p0 : Int32} {p1 : Int32} (pc' : Nat) (C : zOk d F own cc nL fr lo) (E : zXe d ad av) (hd : decode cc pc = .ok (.invokestatic idx, 3)) (hp : pc + 3 = pc') (hq : Cond.methodLink own idx yX10_apart ∈ zW) (hm : 1 + 1 ≤ fr ∧ 8 + (2 + 11) + 21 ≤ lo) (hr : (rest.map fun v => v.category).sum ≤ 8) (hf : zbd (f_X_apart p0 p1 σ) kf = some o2) (K : ∀ (r : Int32) (σ' : zS), kf r σ' = some o2 → V l d F 0 0 (XW d h σ') lv pc' (.int r :: rest)) : V l d F 0 0 (XW d h σ) lv pc (.int p1 :: .int p0 :: rest) := by
  obtain ⟨q, h1, h2⟩ := zbd_some hf
  exact zr_callS y_X_apart q_771 (As := [.int p0, .int p1]) (m_X_apart E h1) rfl rfl pc' C hd hp hq hm hr (K _ _ h2)
theorem kN_X_apart {l : Launch} {d : zD} {F : zF} {h : Nat → Nat} {σ : zS} {lv : List (Option Value)} {pc : Nat} {own : String} {cc : ByteArray} {nL fr lo idx : Nat} {rest : List Value} {β : Type} {kf : Int32 → zS → Option β} {o2 : β} {ad av : Nat → Nat}  {p0 : Int32} {p1 : Int32} {host : String} (pc' : Nat) (C : zOk d F own cc nL fr lo) (E : zXe d ad av) (hd : decode cc pc = .ok (.invokestatic idx, 3)) (hp : pc + 3 = pc') (hq : ∀ A U, d.2.2.2.2.2 A U → va_Nw (.methodLinkNest own idx yX10_apart host) U) (hm : 1 + 1 ≤ fr ∧ 8 + (2 + 11) + 21 ≤ lo) (hr : (rest.map fun v => v.category).sum ≤ 8) (hf : zbd (f_X_apart p0 p1 σ) kf = some o2) (K : ∀ (r : Int32) (σ' : zS), kf r σ' = some o2 → V l d F 0 0 (XW d h σ') lv pc' (.int r :: rest)) : V l d F 0 0 (XW d h σ) lv pc (.int p1 :: .int p0 :: rest) := by
  obtain ⟨q, h1, h2⟩ := zbd_some hf
  exact zr_callSN y_X_apart q_771 (As := [.int p0, .int p1]) (m_X_apart E h1) rfl rfl pc' C hd hp hq hm hr (K _ _ h2)
/-! StepsBeyond.isOfKind(II)Z -/
def f_X_isOfKind_4b (k4 : Int32 → Int32 → Int32 → zS → Option (Int32 × zS)) (x1 : Int32) (x2 : Int32) (x3 : Int32) (σ : zS) : Option (Int32 × zS) :=
  (if 6 ≤ x3 then
  some (0, σ)
  else
  zbd (f_X_isFrom x2 0 (6 - 1) σ) fun r2 σ1 =>
  (if r2 = 0 then
  some (0, σ1)
  else
  (if x2 = x1 then
  some (1, σ1)
  else
  zin x2 6 (zlt (zAbv x2.toNatClampNeg) fun v3 => 
  k4 x1 v3 (x3 + 1) σ1))))
set_option maxRecDepth 4000 in
theorem w_X_isOfKind_4b {l : Launch} {d : zD} {F : zF} {h : Nat → Nat} {out : Int32 × zS} {ad av : Nat → Nat}  {k4 : Int32 → Int32 → Int32 → zS → Option (Int32 × zS)} (C : zOk d F RX10 cX10_isOfKind 4 1 22) (T : zRt d F (some .boolean) (some (.int out.1)) (XW d h out.2)) (E : zXe d ad av) (H4 : ∀ (x1 : Int32) (x2 : Int32) (x3 : Int32) (σ : zS), k4 x1 x2 x3 σ = some out → V l d F 0 0 (XW d h σ) [none, some (.int x1), some (.int x2), some (.int x3)] 4 []) (x1 : Int32) (x2 : Int32) (x3 : Int32) (σ : zS) (hf : f_X_isOfKind_4b k4 x1 x2 x3 σ = some out) : V l d F 0 0 (XW d h σ) [none, some (.int x1), some (.int x2), some (.int x3)] 4 [] := by
  unfold f_X_isOfKind_4b at hf
  refine zr_iload_n 3 5 C (by decide +kernel) rfl rfl ?_
  refine xr_ab (idx := 312) 8 C E (by decide +kernel) rfl q_749 (fun t hT => ?_)
  refine xr_ablen 9 C hT (by decide +kernel) rfl ?_
  refine zr_icmp_ge (off := 36) 45 12 C (by decide +kernel) (by decide) rfl hf (fun hf => ?_) (fun hf => ?_)
  · refine zr_iconst (v := 0) 0 46 C (by decide +kernel) rfl rfl ?_
    obtain rfl := Option.some.inj hf
    exact zr_zret C (by decide +kernel) rfl T
  · refine zr_iload_n 2 13 C (by decide +kernel) rfl rfl ?_
    refine zr_iconst (v := 0) 0 14 C (by decide +kernel) rfl rfl ?_
    refine xr_ab (idx := 312) 17 C E (by decide +kernel) rfl q_749 (fun t hT => ?_)
    refine xr_ablen 18 C hT (by decide +kernel) rfl ?_
    refine zr_iconst (v := 1) 1 19 C (by decide +kernel) rfl rfl ?_
    refine zr_isub 20 C (by decide +kernel) rfl ?_
    refine k_X_isFrom (idx := 159) 23 C E (by decide +kernel) rfl q_615 (zb2 rfl rfl) (Nat.le_of_ble_eq_true rfl) hf (fun r2 σ1 hf => ?_)
    refine zr_if_eq (off := 22) 45 26 C (by decide +kernel) (by decide) rfl hf (fun hf => ?_) (fun hf => ?_)
    · refine zr_iconst (v := 0) 0 46 C (by decide +kernel) rfl rfl ?_
      obtain rfl := Option.some.inj hf
      exact zr_zret C (by decide +kernel) rfl T
    · refine zr_iload_n 2 27 C (by decide +kernel) rfl rfl ?_
      refine zr_iload_n 1 28 C (by decide +kernel) rfl rfl ?_
      refine zr_icmp_ne (off := 5) 33 31 C (by decide +kernel) (by decide) rfl hf (fun hf => ?_) (fun hf => ?_)
      · refine xr_ab (idx := 312) 36 C E (by decide +kernel) rfl q_749 (fun t hT => ?_)
        refine zr_iload_n 2 37 C (by decide +kernel) rfl rfl ?_
        refine xr_abld 38 C hT (by decide +kernel) rfl hf (fun hf => ?_)
        refine zr_name hf (fun v3 hf => ?_)
        refine zr_istore_n 2 [none, some (.int x1), some (.int v3), some (.int x3)] 39 C (by decide +kernel) rfl (by decide) rfl rfl ?_
        refine zr_iinc (j := 1) 3 [none, some (.int x1), some (.int v3), some (.int (x3 + 1))] 42 C (by decide +kernel) rfl rfl rfl (by decide) rfl rfl ?_
        refine zr_goto (off := -38) 4 C (by decide +kernel) (by decide) ?_
        exact H4 _ _ _ _ hf
      · refine zr_iconst (v := 1) 1 32 C (by decide +kernel) rfl rfl ?_
        obtain rfl := Option.some.inj hf
        exact zr_zret C (by decide +kernel) rfl T
def f_X_isOfKind_4  : Nat → Int32 → Int32 → Int32 → zS → Option (Int32 × zS)
  | 0, _, _, _, _ => none
  | n + 1, x1, x2, x3,  σ => f_X_isOfKind_4b (fun x1 x2 x3 σ => f_X_isOfKind_4  n x1 x2 x3 σ) x1 x2 x3 σ
theorem w_X_isOfKind_4 {l : Launch} {d : zD} {F : zF} {h : Nat → Nat} {out : Int32 × zS} {ad av : Nat → Nat}   (C : zOk d F RX10 cX10_isOfKind 4 1 22) (T : zRt d F (some .boolean) (some (.int out.1)) (XW d h out.2)) (E : zXe d ad av)  : ∀ (n : Nat) (x1 : Int32) (x2 : Int32) (x3 : Int32) (σ : zS), f_X_isOfKind_4  n x1 x2 x3 σ = some out → V l d F 0 0 (XW d h σ) [none, some (.int x1), some (.int x2), some (.int x3)] 4 [] := by
  intro n
  induction n with
  | zero =>
    intro x1 x2 x3 σ hf
    cases hf
  | succ n ih =>
    intro x1 x2 x3 σ hf
    exact w_X_isOfKind_4b C T E ih x1 x2 x3 σ hf
def f_X_isOfKind (p0 : Int32) (p1 : Int32) (σ : zS) : Option (Int32 × zS) :=
  f_X_isOfKind_4 zfu p1 p0 0 σ
set_option maxRecDepth 4000 in
theorem m_X_isOfKind {l : Launch} {d : zD} {h : Nat → Nat} {out : Int32 × zS} {σ : zS} {ad av : Nat → Nat} {p0 : Int32} {p1 : Int32} (E : zXe d ad av) (hf : f_X_isOfKind p0 p1 σ = some out) : zM l yX10_isOfKind cX10_isOfKind 4 (some .boolean) 1 22 d [.int p0, .int p1] (XW d h σ) (XW d h out.2) (some (.int out.1)) := by
  refine zM_of [some (.int p0), some (.int p1), none, none] (by decide +kernel) rfl (Nat.le_of_ble_eq_true rfl) (fun F C T => ?_)
  unfold f_X_isOfKind at hf
  refine zr_iload_n 0 1 C (by decide +kernel) rfl rfl ?_
  refine zr_istore_n 2 [some (.int p0), some (.int p1), some (.int p0), none] 2 C (by decide +kernel) rfl (by decide) rfl rfl ?_
  refine zr_iconst (v := 0) 0 3 C (by decide +kernel) rfl rfl ?_
  refine zr_istore_n 3 [some (.int p0), some (.int p1), some (.int p0), some (.int 0)] 4 C (by decide +kernel) rfl (by decide) rfl rfl ?_
  refine zr_less (zN (zA (zA (zA zE)))) ?_
  exact w_X_isOfKind_4 C T E zfu _ _ _ _ hf
theorem y_X_isOfKind : zY yX10_isOfKind cX10_isOfKind 4 (some .boolean) 2 := ⟨q_748, q_72, by decide +kernel, by decide +kernel, by decide +kernel⟩
theorem k_X_isOfKind {l : Launch} {d : zD} {F : zF} {h : Nat → Nat} {σ : zS} {lv : List (Option Value)} {pc : Nat} {own : String} {cc : ByteArray} {nL fr lo idx : Nat} {rest : List Value} {β : Type} {kf : Int32 → zS → Option β} {o2 : β} {ad av : Nat → Nat}  {p0 : Int32} {p1 : Int32} (pc' : Nat) (C : zOk d F own cc nL fr lo) (E : zXe d ad av) (hd : decode cc pc = .ok (.invokestatic idx, 3)) (hp : pc + 3 = pc') (hq : Cond.methodLink own idx yX10_isOfKind ∈ zW) (hm : 1 + 1 ≤ fr ∧ 8 + (4 + 11) + 22 ≤ lo) (hr : (rest.map fun v => v.category).sum ≤ 8) (hf : zbd (f_X_isOfKind p0 p1 σ) kf = some o2) (K : ∀ (r : Int32) (σ' : zS), kf r σ' = some o2 → V l d F 0 0 (XW d h σ') lv pc' (.int r :: rest)) : V l d F 0 0 (XW d h σ) lv pc (.int p1 :: .int p0 :: rest) := by
  obtain ⟨q, h1, h2⟩ := zbd_some hf
  exact zr_callS y_X_isOfKind q_747 (As := [.int p0, .int p1]) (m_X_isOfKind E h1) rfl rfl pc' C hd hp hq hm hr (K _ _ h2)
/-! StepsBeyond$Shapes.knows(I)Z -/
def f_Sh_knows (p1 : Int32) (σ : zS) : Option (Int32 × zS) :=
  (if p1 < 0 then
  some (0, σ)
  else
  (if (σ.1 503) ≤ p1 then
  some (0, σ)
  else
  some (1, σ)))
set_option maxRecDepth 4000 in
theorem m_Sh_knows {l : Launch} {d : zD} {h : Nat → Nat} {out : Int32 × zS} {σ : zS} {ad av : Nat → Nat} {p1 : Int32} (E : zXe d ad av) (hf : f_Sh_knows p1 σ = some out) : zM l yX6_knows cX6_knows 2 (some .boolean) 0 0 d [.ref (h 5), .int p1] (XW d h σ) (XW d h out.2) (some (.int out.1)) := by
  refine zM_of [some (.ref (h 5)), some (.int p1)] (by decide +kernel) rfl (Nat.le_of_ble_eq_true rfl) (fun F C T => ?_)
  unfold f_Sh_knows at hf
  refine zr_iload_n 1 1 C (by decide +kernel) rfl rfl ?_
  refine zr_if_lt (off := 15) 16 4 C (by decide +kernel) (by decide) rfl hf (fun hf => ?_) (fun hf => ?_)
  · refine zr_iconst (v := 0) 0 17 C (by decide +kernel) rfl rfl ?_
    obtain rfl := Option.some.inj hf
    exact zr_zret C (by decide +kernel) rfl T
  · refine zr_iload_n 1 5 C (by decide +kernel) rfl rfl ?_
    refine zr_aload_n 0 6 C (by decide +kernel) rfl rfl ?_
    refine xg_5_3 (idx := 21) 9 C (by decide +kernel) rfl q_243 ?_
    refine zr_icmp_ge (off := 7) 16 12 C (by decide +kernel) (by decide) rfl hf (fun hf => ?_) (fun hf => ?_)
    · refine zr_iconst (v := 0) 0 17 C (by decide +kernel) rfl rfl ?_
      obtain rfl := Option.some.inj hf
      exact zr_zret C (by decide +kernel) rfl T
    · refine zr_iconst (v := 1) 1 13 C (by decide +kernel) rfl rfl ?_
      refine zr_goto (off := 4) 17 C (by decide +kernel) (by decide) ?_
      obtain rfl := Option.some.inj hf
      exact zr_zret C (by decide +kernel) rfl T
theorem y_Sh_knows : zY yX6_knows cX6_knows 2 (some .boolean) 1 := ⟨q_714, q_79, by decide +kernel, by decide +kernel, by decide +kernel⟩
theorem k_Sh_knows {l : Launch} {d : zD} {F : zF} {h : Nat → Nat} {σ : zS} {lv : List (Option Value)} {pc : Nat} {own : String} {cc : ByteArray} {nL fr lo idx : Nat} {rest : List Value} {β : Type} {kf : Int32 → zS → Option β} {o2 : β} {ad av : Nat → Nat}  {p1 : Int32} (pc' : Nat) (C : zOk d F own cc nL fr lo) (E : zXe d ad av) (hd : decode cc pc = .ok (.invokevirtual idx, 3)) (hp : pc + 3 = pc') (hq : Cond.methodLink own idx yX6_knows ∈ zW) (hm : 0 + 1 ≤ fr ∧ 8 + (2 + 11) + 0 ≤ lo) (hr : (rest.map fun v => v.category).sum ≤ 8) (hf : zbd (f_Sh_knows p1 σ) kf = some o2) (K : ∀ (r : Int32) (σ' : zS), kf r σ' = some o2 → V l d F 0 0 (XW d h σ') lv pc' (.int r :: rest)) : V l d F 0 0 (XW d h σ) lv pc (.int p1 :: .ref (h 5) :: rest) := by
  obtain ⟨q, h1, h2⟩ := zbd_some hf
  exact zr_callV y_Sh_knows ⟨q_712, q_713⟩ 5 rfl rfl (As := [.int p1]) (m_Sh_knows E h1) rfl rfl pc' C hd hp hq hm hr (K _ _ h2)
/-! StepsBeyond$People.knows(I)Z -/
def f_Pe_knows (p1 : Int32) (σ : zS) : Option (Int32 × zS) :=
  (if p1 < 0 then
  some (0, σ)
  else
  (if (σ.1 602) ≤ p1 then
  some (0, σ)
  else
  some (1, σ)))
set_option maxRecDepth 4000 in
theorem m_Pe_knows {l : Launch} {d : zD} {h : Nat → Nat} {out : Int32 × zS} {σ : zS} {ad av : Nat → Nat} {p1 : Int32} (E : zXe d ad av) (hf : f_Pe_knows p1 σ = some out) : zM l yX3_knows cX3_knows 2 (some .boolean) 0 0 d [.ref (h 6), .int p1] (XW d h σ) (XW d h out.2) (some (.int out.1)) := by
  refine zM_of [some (.ref (h 6)), some (.int p1)] (by decide +kernel) rfl (Nat.le_of_ble_eq_true rfl) (fun F C T => ?_)
  unfold f_Pe_knows at hf
  refine zr_iload_n 1 1 C (by decide +kernel) rfl rfl ?_
  refine zr_if_lt (off := 15) 16 4 C (by decide +kernel) (by decide) rfl hf (fun hf => ?_) (fun hf => ?_)
  · refine zr_iconst (v := 0) 0 17 C (by decide +kernel) rfl rfl ?_
    obtain rfl := Option.some.inj hf
    exact zr_zret C (by decide +kernel) rfl T
  · refine zr_iload_n 1 5 C (by decide +kernel) rfl rfl ?_
    refine zr_aload_n 0 6 C (by decide +kernel) rfl rfl ?_
    refine xg_6_2 (idx := 18) 9 C (by decide +kernel) rfl q_264 ?_
    refine zr_icmp_ge (off := 7) 16 12 C (by decide +kernel) (by decide) rfl hf (fun hf => ?_) (fun hf => ?_)
    · refine zr_iconst (v := 0) 0 17 C (by decide +kernel) rfl rfl ?_
      obtain rfl := Option.some.inj hf
      exact zr_zret C (by decide +kernel) rfl T
    · refine zr_iconst (v := 1) 1 13 C (by decide +kernel) rfl rfl ?_
      refine zr_goto (off := 4) 17 C (by decide +kernel) (by decide) ?_
      obtain rfl := Option.some.inj hf
      exact zr_zret C (by decide +kernel) rfl T
theorem y_Pe_knows : zY yX3_knows cX3_knows 2 (some .boolean) 1 := ⟨q_830, q_80, by decide +kernel, by decide +kernel, by decide +kernel⟩
theorem k_Pe_knows {l : Launch} {d : zD} {F : zF} {h : Nat → Nat} {σ : zS} {lv : List (Option Value)} {pc : Nat} {own : String} {cc : ByteArray} {nL fr lo idx : Nat} {rest : List Value} {β : Type} {kf : Int32 → zS → Option β} {o2 : β} {ad av : Nat → Nat}  {p1 : Int32} (pc' : Nat) (C : zOk d F own cc nL fr lo) (E : zXe d ad av) (hd : decode cc pc = .ok (.invokevirtual idx, 3)) (hp : pc + 3 = pc') (hq : Cond.methodLink own idx yX3_knows ∈ zW) (hm : 0 + 1 ≤ fr ∧ 8 + (2 + 11) + 0 ≤ lo) (hr : (rest.map fun v => v.category).sum ≤ 8) (hf : zbd (f_Pe_knows p1 σ) kf = some o2) (K : ∀ (r : Int32) (σ' : zS), kf r σ' = some o2 → V l d F 0 0 (XW d h σ') lv pc' (.int r :: rest)) : V l d F 0 0 (XW d h σ) lv pc (.int p1 :: .ref (h 6) :: rest) := by
  obtain ⟨q, h1, h2⟩ := zbd_some hf
  exact zr_callV y_Pe_knows ⟨q_828, q_829⟩ 6 rfl rfl (As := [.int p1]) (m_Pe_knows E h1) rfl rfl pc' C hd hp hq hm hr (K _ _ h2)
/-! StepsBeyond$Shapes.add(III)I -/
def f_Sh_add (p1 : Int32) (p2 : Int32) (p3 : Int32) (σ : zS) : Option (Int32 × zS) :=
  (if (σ.1 503) < 12 then
  zin (σ.1 503) 12 (zlt (zsa σ 23 (σ.1 503) p1) fun σ1 =>
  zin (σ1.1 503) 12 (zlt (zsa σ1 24 (σ1.1 503) p2) fun σ2 =>
  zin (σ2.1 503) 12 (zlt (zsa σ2 25 (σ2.1 503) p3) fun σ3 =>
  zlt (zsg σ3 503 ((σ3.1 503) + 1)) fun σ4 =>
  some ((σ4.1 503) - 1, σ4))))
  else
  some (-4, σ))
set_option maxRecDepth 4000 in
theorem m_Sh_add {l : Launch} {d : zD} {h : Nat → Nat} {out : Int32 × zS} {σ : zS} {ad av : Nat → Nat} {p1 : Int32} {p2 : Int32} {p3 : Int32} (E : zXe d ad av) (hf : f_Sh_add p1 p2 p3 σ = some out) : zM l yX6_add cX6_add 4 (some .int) 0 0 d [.ref (h 5), .int p1, .int p2, .int p3] (XW d h σ) (XW d h out.2) (some (.int out.1)) := by
  refine zM_of [some (.ref (h 5)), some (.int p1), some (.int p2), some (.int p3)] (by decide +kernel) rfl (Nat.le_of_ble_eq_true rfl) (fun F C T => ?_)
  unfold f_Sh_add at hf
  refine zr_aload_n 0 1 C (by decide +kernel) rfl rfl ?_
  refine xg_5_3 (idx := 21) 4 C (by decide +kernel) rfl q_243 ?_
  refine zr_bipush (v := 12) 12 6 C (by decide +kernel) rfl rfl ?_
  refine zr_icmp_lt (off := 6) 12 9 C (by decide +kernel) (by decide) rfl hf (fun hf => ?_) (fun hf => ?_)
  · refine zr_aload_n 0 13 C (by decide +kernel) rfl rfl ?_
    refine xg_5_0 (idx := 9) 16 C (by decide +kernel) rfl q_237 ?_
    refine zr_aload_n 0 17 C (by decide +kernel) rfl rfl ?_
    refine xg_5_3 (idx := 21) 20 C (by decide +kernel) rfl q_243 ?_
    refine zr_iload_n 1 21 C (by decide +kernel) rfl rfl ?_
    refine xs_23 22 C (by decide +kernel) rfl hf (fun σ1 hf => ?_)
    refine zr_aload_n 0 23 C (by decide +kernel) rfl rfl ?_
    refine xg_5_1 (idx := 15) 26 C (by decide +kernel) rfl q_239 ?_
    refine zr_aload_n 0 27 C (by decide +kernel) rfl rfl ?_
    refine xg_5_3 (idx := 21) 30 C (by decide +kernel) rfl q_243 ?_
    refine zr_iload_n 2 31 C (by decide +kernel) rfl rfl ?_
    refine xs_24 32 C (by decide +kernel) rfl hf (fun σ2 hf => ?_)
    refine zr_aload_n 0 33 C (by decide +kernel) rfl rfl ?_
    refine xg_5_2 (idx := 18) 36 C (by decide +kernel) rfl q_241 ?_
    refine zr_aload_n 0 37 C (by decide +kernel) rfl rfl ?_
    refine xg_5_3 (idx := 21) 40 C (by decide +kernel) rfl q_243 ?_
    refine zr_iload_n 3 41 C (by decide +kernel) rfl rfl ?_
    refine xs_25 42 C (by decide +kernel) rfl hf (fun σ3 hf => ?_)
    refine zr_aload_n 0 43 C (by decide +kernel) rfl rfl ?_
    refine zr_dup 44 C (by decide +kernel) rfl rfl ?_
    refine xg_5_3 (idx := 21) 47 C (by decide +kernel) rfl q_243 ?_
    refine zr_iconst (v := 1) 1 48 C (by decide +kernel) rfl rfl ?_
    refine zr_iadd 49 C (by decide +kernel) rfl ?_
    refine xp_5_3 (idx := 21) 52 C (by decide +kernel) rfl q_243 hf (fun σ4 hf => ?_)
    refine zr_aload_n 0 53 C (by decide +kernel) rfl rfl ?_
    refine xg_5_3 (idx := 21) 56 C (by decide +kernel) rfl q_243 ?_
    refine zr_iconst (v := 1) 1 57 C (by decide +kernel) rfl rfl ?_
    refine zr_isub 58 C (by decide +kernel) rfl ?_
    obtain rfl := Option.some.inj hf
    exact zr_iret C (by decide +kernel) T
  · refine zr_bipush (v := (-4)) (-4) 11 C (by decide +kernel) rfl rfl ?_
    obtain rfl := Option.some.inj hf
    exact zr_iret C (by decide +kernel) T
theorem y_Sh_add : zY yX6_add cX6_add 4 (some .int) 3 := ⟨q_702, q_79, by decide +kernel, by decide +kernel, by decide +kernel⟩
theorem k_Sh_add {l : Launch} {d : zD} {F : zF} {h : Nat → Nat} {σ : zS} {lv : List (Option Value)} {pc : Nat} {own : String} {cc : ByteArray} {nL fr lo idx : Nat} {rest : List Value} {β : Type} {kf : Int32 → zS → Option β} {o2 : β} {ad av : Nat → Nat}  {p1 : Int32} {p2 : Int32} {p3 : Int32} (pc' : Nat) (C : zOk d F own cc nL fr lo) (E : zXe d ad av) (hd : decode cc pc = .ok (.invokevirtual idx, 3)) (hp : pc + 3 = pc') (hq : Cond.methodLink own idx yX6_add ∈ zW) (hm : 0 + 1 ≤ fr ∧ 8 + (4 + 11) + 0 ≤ lo) (hr : (rest.map fun v => v.category).sum ≤ 8) (hf : zbd (f_Sh_add p1 p2 p3 σ) kf = some o2) (K : ∀ (r : Int32) (σ' : zS), kf r σ' = some o2 → V l d F 0 0 (XW d h σ') lv pc' (.int r :: rest)) : V l d F 0 0 (XW d h σ) lv pc (.int p3 :: .int p2 :: .int p1 :: .ref (h 5) :: rest) := by
  obtain ⟨q, h1, h2⟩ := zbd_some hf
  exact zr_callV y_Sh_add ⟨q_700, q_701⟩ 5 rfl rfl (As := [.int p1, .int p2, .int p3]) (m_Sh_add E h1) rfl rfl pc' C hd hp hq hm hr (K _ _ h2)
/-! StepsBeyond$People.add(II)I -/
def f_Pe_add (p1 : Int32) (p2 : Int32) (σ : zS) : Option (Int32 × zS) :=
  (if (σ.1 602) < 8 then
  zin (σ.1 602) 8 (zlt (zsa σ 26 (σ.1 602) p1) fun σ1 =>
  zin (σ1.1 602) 8 (zlt (zsa σ1 27 (σ1.1 602) p2) fun σ2 =>
  zlt (zsg σ2 602 ((σ2.1 602) + 1)) fun σ3 =>
  some ((σ3.1 602) - 1, σ3)))
  else
  some (-4, σ))
set_option maxRecDepth 4000 in
theorem m_Pe_add {l : Launch} {d : zD} {h : Nat → Nat} {out : Int32 × zS} {σ : zS} {ad av : Nat → Nat} {p1 : Int32} {p2 : Int32} (E : zXe d ad av) (hf : f_Pe_add p1 p2 σ = some out) : zM l yX3_add cX3_add 3 (some .int) 0 0 d [.ref (h 6), .int p1, .int p2] (XW d h σ) (XW d h out.2) (some (.int out.1)) := by
  refine zM_of [some (.ref (h 6)), some (.int p1), some (.int p2)] (by decide +kernel) rfl (Nat.le_of_ble_eq_true rfl) (fun F C T => ?_)
  unfold f_Pe_add at hf
  refine zr_aload_n 0 1 C (by decide +kernel) rfl rfl ?_
  refine xg_6_2 (idx := 18) 4 C (by decide +kernel) rfl q_264 ?_
  refine zr_bipush (v := 8) 8 6 C (by decide +kernel) rfl rfl ?_
  refine zr_icmp_lt (off := 6) 12 9 C (by decide +kernel) (by decide) rfl hf (fun hf => ?_) (fun hf => ?_)
  · refine zr_aload_n 0 13 C (by decide +kernel) rfl rfl ?_
    refine xg_6_0 (idx := 9) 16 C (by decide +kernel) rfl q_260 ?_
    refine zr_aload_n 0 17 C (by decide +kernel) rfl rfl ?_
    refine xg_6_2 (idx := 18) 20 C (by decide +kernel) rfl q_264 ?_
    refine zr_iload_n 1 21 C (by decide +kernel) rfl rfl ?_
    refine xs_26 22 C (by decide +kernel) rfl hf (fun σ1 hf => ?_)
    refine zr_aload_n 0 23 C (by decide +kernel) rfl rfl ?_
    refine xg_6_1 (idx := 15) 26 C (by decide +kernel) rfl q_262 ?_
    refine zr_aload_n 0 27 C (by decide +kernel) rfl rfl ?_
    refine xg_6_2 (idx := 18) 30 C (by decide +kernel) rfl q_264 ?_
    refine zr_iload_n 2 31 C (by decide +kernel) rfl rfl ?_
    refine xs_27 32 C (by decide +kernel) rfl hf (fun σ2 hf => ?_)
    refine zr_aload_n 0 33 C (by decide +kernel) rfl rfl ?_
    refine zr_dup 34 C (by decide +kernel) rfl rfl ?_
    refine xg_6_2 (idx := 18) 37 C (by decide +kernel) rfl q_264 ?_
    refine zr_iconst (v := 1) 1 38 C (by decide +kernel) rfl rfl ?_
    refine zr_iadd 39 C (by decide +kernel) rfl ?_
    refine xp_6_2 (idx := 18) 42 C (by decide +kernel) rfl q_264 hf (fun σ3 hf => ?_)
    refine zr_aload_n 0 43 C (by decide +kernel) rfl rfl ?_
    refine xg_6_2 (idx := 18) 46 C (by decide +kernel) rfl q_264 ?_
    refine zr_iconst (v := 1) 1 47 C (by decide +kernel) rfl rfl ?_
    refine zr_isub 48 C (by decide +kernel) rfl ?_
    obtain rfl := Option.some.inj hf
    exact zr_iret C (by decide +kernel) T
  · refine zr_bipush (v := (-4)) (-4) 11 C (by decide +kernel) rfl rfl ?_
    obtain rfl := Option.some.inj hf
    exact zr_iret C (by decide +kernel) T
theorem y_Pe_add : zY yX3_add cX3_add 3 (some .int) 2 := ⟨q_822, q_80, by decide +kernel, by decide +kernel, by decide +kernel⟩
theorem k_Pe_add {l : Launch} {d : zD} {F : zF} {h : Nat → Nat} {σ : zS} {lv : List (Option Value)} {pc : Nat} {own : String} {cc : ByteArray} {nL fr lo idx : Nat} {rest : List Value} {β : Type} {kf : Int32 → zS → Option β} {o2 : β} {ad av : Nat → Nat}  {p1 : Int32} {p2 : Int32} (pc' : Nat) (C : zOk d F own cc nL fr lo) (E : zXe d ad av) (hd : decode cc pc = .ok (.invokevirtual idx, 3)) (hp : pc + 3 = pc') (hq : Cond.methodLink own idx yX3_add ∈ zW) (hm : 0 + 1 ≤ fr ∧ 8 + (3 + 11) + 0 ≤ lo) (hr : (rest.map fun v => v.category).sum ≤ 8) (hf : zbd (f_Pe_add p1 p2 σ) kf = some o2) (K : ∀ (r : Int32) (σ' : zS), kf r σ' = some o2 → V l d F 0 0 (XW d h σ') lv pc' (.int r :: rest)) : V l d F 0 0 (XW d h σ) lv pc (.int p2 :: .int p1 :: .ref (h 6) :: rest) := by
  obtain ⟨q, h1, h2⟩ := zbd_some hf
  exact zr_callV y_Pe_add ⟨q_820, q_821⟩ 6 rfl rfl (As := [.int p1, .int p2]) (m_Pe_add E h1) rfl rfl pc' C hd hp hq hm hr (K _ _ h2)
/-! StepsBeyond$Sheets.isMissing(I)Z -/
def f_St_isMissing (p1 : Int32) (σ : zS) : Option (Int32 × zS) :=
  zin p1 4 ((if (σ.2 30 p1.toNatClampNeg) = (-1) then
  some (1, σ)
  else
  some (0, σ)))
set_option maxRecDepth 4000 in
theorem m_St_isMissing {l : Launch} {d : zD} {h : Nat → Nat} {out : Int32 × zS} {σ : zS} {ad av : Nat → Nat} {p1 : Int32} (E : zXe d ad av) (hf : f_St_isMissing p1 σ = some out) : zM l yX7_isMissing cX7_isMissing 2 (some .boolean) 0 0 d [.ref (h 8), .int p1] (XW d h σ) (XW d h out.2) (some (.int out.1)) := by
  refine zM_of [some (.ref (h 8)), some (.int p1)] (by decide +kernel) rfl (Nat.le_of_ble_eq_true rfl) (fun F C T => ?_)
  unfold f_St_isMissing at hf
  refine zr_aload_n 0 1 C (by decide +kernel) rfl rfl ?_
  refine xg_8_1 (idx := 16) 4 C (by decide +kernel) rfl q_313 ?_
  refine zr_iload_n 1 5 C (by decide +kernel) rfl rfl ?_
  refine xl_30 6 C (by decide +kernel) rfl hf (fun hf => ?_)
  refine zr_iconst (v := (-1)) (-1) 7 C (by decide +kernel) rfl rfl ?_
  refine zr_icmp_ne (off := 7) 14 10 C (by decide +kernel) (by decide) rfl hf (fun hf => ?_) (fun hf => ?_)
  · refine zr_iconst (v := 0) 0 15 C (by decide +kernel) rfl rfl ?_
    obtain rfl := Option.some.inj hf
    exact zr_zret C (by decide +kernel) rfl T
  · refine zr_iconst (v := 1) 1 11 C (by decide +kernel) rfl rfl ?_
    refine zr_goto (off := 4) 15 C (by decide +kernel) (by decide) ?_
    obtain rfl := Option.some.inj hf
    exact zr_zret C (by decide +kernel) rfl T
theorem y_St_isMissing : zY yX7_isMissing cX7_isMissing 2 (some .boolean) 1 := ⟨q_936, q_82, by decide +kernel, by decide +kernel, by decide +kernel⟩
theorem k_St_isMissing {l : Launch} {d : zD} {F : zF} {h : Nat → Nat} {σ : zS} {lv : List (Option Value)} {pc : Nat} {own : String} {cc : ByteArray} {nL fr lo idx : Nat} {rest : List Value} {β : Type} {kf : Int32 → zS → Option β} {o2 : β} {ad av : Nat → Nat}  {p1 : Int32} (pc' : Nat) (C : zOk d F own cc nL fr lo) (E : zXe d ad av) (hd : decode cc pc = .ok (.invokevirtual idx, 3)) (hp : pc + 3 = pc') (hq : Cond.methodLink own idx yX7_isMissing ∈ zW) (hm : 0 + 1 ≤ fr ∧ 8 + (2 + 11) + 0 ≤ lo) (hr : (rest.map fun v => v.category).sum ≤ 8) (hf : zbd (f_St_isMissing p1 σ) kf = some o2) (K : ∀ (r : Int32) (σ' : zS), kf r σ' = some o2 → V l d F 0 0 (XW d h σ') lv pc' (.int r :: rest)) : V l d F 0 0 (XW d h σ) lv pc (.int p1 :: .ref (h 8) :: rest) := by
  obtain ⟨q, h1, h2⟩ := zbd_some hf
  exact zr_callV y_St_isMissing ⟨q_934, q_935⟩ 8 rfl rfl (As := [.int p1]) (m_St_isMissing E h1) rfl rfl pc' C hd hp hq hm hr (K _ _ h2)
/-! StepsBeyond$Sheets.hasRun(III)Z -/
def f_St_hasRun (p1 : Int32) (p2 : Int32) (p3 : Int32) (σ : zS) : Option (Int32 × zS) :=
  (if p2 < 0 then
  some (0, σ)
  else
  (if p3 < 0 then
  some (0, σ)
  else
  zin p1 4 ((if (σ.2 31 p1.toNatClampNeg) < p3 then
  some (0, σ)
  else
  zin p1 4 ((if ((σ.2 31 p1.toNatClampNeg) - p3) < p2 then
  some (0, σ)
  else
  some (1, σ)))))))
set_option maxRecDepth 4000 in
theorem m_St_hasRun {l : Launch} {d : zD} {h : Nat → Nat} {out : Int32 × zS} {σ : zS} {ad av : Nat → Nat} {p1 : Int32} {p2 : Int32} {p3 : Int32} (E : zXe d ad av) (hf : f_St_hasRun p1 p2 p3 σ = some out) : zM l yX7_hasRun cX7_hasRun 4 (some .boolean) 0 0 d [.ref (h 8), .int p1, .int p2, .int p3] (XW d h σ) (XW d h out.2) (some (.int out.1)) := by
  refine zM_of [some (.ref (h 8)), some (.int p1), some (.int p2), some (.int p3)] (by decide +kernel) rfl (Nat.le_of_ble_eq_true rfl) (fun F C T => ?_)
  unfold f_St_hasRun at hf
  refine zr_iload_n 2 1 C (by decide +kernel) rfl rfl ?_
  refine zr_if_lt (off := 33) 34 4 C (by decide +kernel) (by decide) rfl hf (fun hf => ?_) (fun hf => ?_)
  · refine zr_iconst (v := 0) 0 35 C (by decide +kernel) rfl rfl ?_
    obtain rfl := Option.some.inj hf
    exact zr_zret C (by decide +kernel) rfl T
  · refine zr_iload_n 3 5 C (by decide +kernel) rfl rfl ?_
    refine zr_if_lt (off := 29) 34 8 C (by decide +kernel) (by decide) rfl hf (fun hf => ?_) (fun hf => ?_)
    · refine zr_iconst (v := 0) 0 35 C (by decide +kernel) rfl rfl ?_
      obtain rfl := Option.some.inj hf
      exact zr_zret C (by decide +kernel) rfl T
    · refine zr_iload_n 3 9 C (by decide +kernel) rfl rfl ?_
      refine zr_aload_n 0 10 C (by decide +kernel) rfl rfl ?_
      refine xg_8_2 (idx := 20) 13 C (by decide +kernel) rfl q_315 ?_
      refine zr_iload_n 1 14 C (by decide +kernel) rfl rfl ?_
      refine xl_31 15 C (by decide +kernel) rfl hf (fun hf => ?_)
      refine zr_icmp_gt (off := 19) 34 18 C (by decide +kernel) (by decide) rfl hf (fun hf => ?_) (fun hf => ?_)
      · refine zr_iconst (v := 0) 0 35 C (by decide +kernel) rfl rfl ?_
        obtain rfl := Option.some.inj hf
        exact zr_zret C (by decide +kernel) rfl T
      · refine zr_iload_n 2 19 C (by decide +kernel) rfl rfl ?_
        refine zr_aload_n 0 20 C (by decide +kernel) rfl rfl ?_
        refine xg_8_2 (idx := 20) 23 C (by decide +kernel) rfl q_315 ?_
        refine zr_iload_n 1 24 C (by decide +kernel) rfl rfl ?_
        refine xl_31 25 C (by decide +kernel) rfl hf (fun hf => ?_)
        refine zr_iload_n 3 26 C (by decide +kernel) rfl rfl ?_
        refine zr_isub 27 C (by decide +kernel) rfl ?_
        refine zr_icmp_gt (off := 7) 34 30 C (by decide +kernel) (by decide) rfl hf (fun hf => ?_) (fun hf => ?_)
        · refine zr_iconst (v := 0) 0 35 C (by decide +kernel) rfl rfl ?_
          obtain rfl := Option.some.inj hf
          exact zr_zret C (by decide +kernel) rfl T
        · refine zr_iconst (v := 1) 1 31 C (by decide +kernel) rfl rfl ?_
          refine zr_goto (off := 4) 35 C (by decide +kernel) (by decide) ?_
          obtain rfl := Option.some.inj hf
          exact zr_zret C (by decide +kernel) rfl T
theorem y_St_hasRun : zY yX7_hasRun cX7_hasRun 4 (some .boolean) 3 := ⟨q_940, q_82, by decide +kernel, by decide +kernel, by decide +kernel⟩
theorem k_St_hasRun {l : Launch} {d : zD} {F : zF} {h : Nat → Nat} {σ : zS} {lv : List (Option Value)} {pc : Nat} {own : String} {cc : ByteArray} {nL fr lo idx : Nat} {rest : List Value} {β : Type} {kf : Int32 → zS → Option β} {o2 : β} {ad av : Nat → Nat}  {p1 : Int32} {p2 : Int32} {p3 : Int32} (pc' : Nat) (C : zOk d F own cc nL fr lo) (E : zXe d ad av) (hd : decode cc pc = .ok (.invokevirtual idx, 3)) (hp : pc + 3 = pc') (hq : Cond.methodLink own idx yX7_hasRun ∈ zW) (hm : 0 + 1 ≤ fr ∧ 8 + (4 + 11) + 0 ≤ lo) (hr : (rest.map fun v => v.category).sum ≤ 8) (hf : zbd (f_St_hasRun p1 p2 p3 σ) kf = some o2) (K : ∀ (r : Int32) (σ' : zS), kf r σ' = some o2 → V l d F 0 0 (XW d h σ') lv pc' (.int r :: rest)) : V l d F 0 0 (XW d h σ) lv pc (.int p3 :: .int p2 :: .int p1 :: .ref (h 8) :: rest) := by
  obtain ⟨q, h1, h2⟩ := zbd_some hf
  exact zr_callV y_St_hasRun ⟨q_938, q_939⟩ 8 rfl rfl (As := [.int p1, .int p2, .int p3]) (m_St_hasRun E h1) rfl rfl pc' C hd hp hq hm hr (K _ _ h2)
/-! StepsBeyond$Sheets.put(III)V -/
def f_St_put_37  (y0 : Nat) (y1 : Int32) (y2 : Int32) (σ : zS) : Option (Int32 × zS) :=
  zrw y0 (zin y1 40 (zlt (zsa σ y0 y1 y2) fun σ1 =>
  some (0, σ1)))
set_option maxRecDepth 4000 in
theorem w_St_put_37 {l : Launch} {d : zD} {F : zF} {h : Nat → Nat} {out : Int32 × zS} {ad av : Nat → Nat}   (C : zOk d F RX7 cX7_put 4 0 0) (T : zRt d F none none (XW d h out.2)) (E : zXe d ad av)  (y0 : Nat) (y1 : Int32) (y2 : Int32) (σ : zS) (hf : f_St_put_37  y0 y1 y2 σ = some out) : V l d F 0 0 (XW d h σ) [none, none, none, none] 37 [.int y2, .int y1, .ref (h y0)] := by
  unfold f_St_put_37 at hf
  refine xs_rows 38 C (by decide +kernel) rfl hf (fun σ1 hf => ?_)
  obtain rfl := Option.some.inj hf
  exact zr_vret C (by decide +kernel) T
def f_St_put (p1 : Int32) (p2 : Int32) (p3 : Int32) (σ : zS) : Option (Int32 × zS) :=
  zin p1 4 (zin p1 4 ((if (σ.2 30 p1.toNatClampNeg) = 0 then
  f_St_put_37 (37 + p1.toNatClampNeg) p2 p3.toInt8.toInt32 σ
  else
  zin p1 4 ((if (σ.2 30 p1.toNatClampNeg) = 1 then
  f_St_put_37 (37 + p1.toNatClampNeg) p2 p3.toInt16.toInt32 σ
  else
  f_St_put_37 (37 + p1.toNatClampNeg) p2 p3 σ)))))
set_option maxRecDepth 4000 in
theorem m_St_put {l : Launch} {d : zD} {h : Nat → Nat} {out : Int32 × zS} {σ : zS} {ad av : Nat → Nat} {p1 : Int32} {p2 : Int32} {p3 : Int32} (E : zXe d ad av) (hf : f_St_put p1 p2 p3 σ = some out) : zM l yX7_put cX7_put 4 none 0 0 d [.ref (h 8), .int p1, .int p2, .int p3] (XW d h σ) (XW d h out.2) none := by
  refine zM_of [some (.ref (h 8)), some (.int p1), some (.int p2), some (.int p3)] (by decide +kernel) rfl (Nat.le_of_ble_eq_true rfl) (fun F C T => ?_)
  unfold f_St_put at hf
  refine zr_aload_n 0 1 C (by decide +kernel) rfl rfl ?_
  refine xg_8_0 (idx := 11) 4 C (by decide +kernel) rfl q_311 ?_
  refine zr_iload_n 1 5 C (by decide +kernel) rfl rfl ?_
  refine xa_36 6 C (by decide +kernel) rfl hf (fun hf => ?_)
  refine zr_iload_n 2 7 C (by decide +kernel) rfl rfl ?_
  refine zr_aload_n 0 8 C (by decide +kernel) rfl rfl ?_
  refine xg_8_1 (idx := 16) 11 C (by decide +kernel) rfl q_313 ?_
  refine zr_iload_n 1 12 C (by decide +kernel) rfl rfl ?_
  refine xl_30 13 C (by decide +kernel) rfl hf (fun hf => ?_)
  refine zr_if_ne (off := 8) 21 16 C (by decide +kernel) (by decide) rfl hf (fun hf => ?_) (fun hf => ?_)
  · refine zr_aload_n 0 22 C (by decide +kernel) rfl rfl ?_
    refine xg_8_1 (idx := 16) 25 C (by decide +kernel) rfl q_313 ?_
    refine zr_iload_n 1 26 C (by decide +kernel) rfl rfl ?_
    refine xl_30 27 C (by decide +kernel) rfl hf (fun hf => ?_)
    refine zr_iconst (v := 1) 1 28 C (by decide +kernel) rfl rfl ?_
    refine zr_icmp_ne (off := 8) 36 31 C (by decide +kernel) (by decide) rfl hf (fun hf => ?_) (fun hf => ?_)
    · refine zr_iload_n 3 37 C (by decide +kernel) rfl rfl ?_
      refine zr_less (zN (zN (zN (zN zE)))) ?_
      exact w_St_put_37 C T E _ _ _ _ hf
    · refine zr_iload_n 3 32 C (by decide +kernel) rfl rfl ?_
      refine zr_i2s 33 C (by decide +kernel) rfl ?_
      refine zr_goto (off := 4) 37 C (by decide +kernel) (by decide) ?_
      refine zr_less (zN (zN (zN (zN zE)))) ?_
      exact w_St_put_37 C T E _ _ _ _ hf
  · refine zr_iload_n 3 17 C (by decide +kernel) rfl rfl ?_
    refine zr_i2b 18 C (by decide +kernel) rfl ?_
    refine zr_goto (off := 19) 37 C (by decide +kernel) (by decide) ?_
    refine zr_less (zN (zN (zN (zN zE)))) ?_
    exact w_St_put_37 C T E _ _ _ _ hf
theorem y_St_put : zY yX7_put cX7_put 4 none 3 := ⟨q_944, q_82, by decide +kernel, by decide +kernel, by decide +kernel⟩
theorem k_St_put {l : Launch} {d : zD} {F : zF} {h : Nat → Nat} {σ : zS} {lv : List (Option Value)} {pc : Nat} {own : String} {cc : ByteArray} {nL fr lo idx : Nat} {rest : List Value} {β : Type} {kf : Int32 → zS → Option β} {o2 : β} {ad av : Nat → Nat}  {p1 : Int32} {p2 : Int32} {p3 : Int32} (pc' : Nat) (C : zOk d F own cc nL fr lo) (E : zXe d ad av) (hd : decode cc pc = .ok (.invokevirtual idx, 3)) (hp : pc + 3 = pc') (hq : Cond.methodLink own idx yX7_put ∈ zW) (hm : 0 + 1 ≤ fr ∧ 8 + (4 + 11) + 0 ≤ lo) (hr : (rest.map fun v => v.category).sum ≤ 8) (hf : zbd (f_St_put p1 p2 p3 σ) kf = some o2) (K : ∀ (r : Int32) (σ' : zS), kf r σ' = some o2 → V l d F 0 0 (XW d h σ') lv pc' (rest)) : V l d F 0 0 (XW d h σ) lv pc (.int p3 :: .int p2 :: .int p1 :: .ref (h 8) :: rest) := by
  obtain ⟨q, h1, h2⟩ := zbd_some hf
  exact zr_callV y_St_put ⟨q_942, q_943⟩ 8 rfl rfl (As := [.int p1, .int p2, .int p3]) (m_St_put E h1) rfl rfl pc' C hd hp hq hm hr (K _ _ h2)
/-! StepsBeyond$Sheets.renew(III)V -/
def f_St_renew (p1 : Int32) (p2 : Int32) (p3 : Int32) (σ : zS) : Option (Int32 × zS) :=
  zin p1 4 (zlt (zsa σ 30 p1 p2) fun σ1 =>
  zin p1 4 (zlt (zsa σ1 31 p1 p3) fun σ2 =>
  zin p1 4 (zrw (37 + p1.toNatClampNeg) (zlt (zsf σ2 (37 + p1.toNatClampNeg) 40 0) fun σ3 =>
  some (0, σ3)))))
set_option maxRecDepth 4000 in
theorem m_St_renew {l : Launch} {d : zD} {h : Nat → Nat} {out : Int32 × zS} {σ : zS} {ad av : Nat → Nat} {p1 : Int32} {p2 : Int32} {p3 : Int32} (E : zXe d ad av) (hf : f_St_renew p1 p2 p3 σ = some out) : zM l yX7_renew cX7_renew 4 none 1 23 d [.ref (h 8), .int p1, .int p2, .int p3] (XW d h σ) (XW d h out.2) none := by
  refine zM_of [some (.ref (h 8)), some (.int p1), some (.int p2), some (.int p3)] (by decide +kernel) rfl (Nat.le_of_ble_eq_true rfl) (fun F C T => ?_)
  unfold f_St_renew at hf
  refine zr_aload_n 0 1 C (by decide +kernel) rfl rfl ?_
  refine xg_8_1 (idx := 16) 4 C (by decide +kernel) rfl q_313 ?_
  refine zr_iload_n 1 5 C (by decide +kernel) rfl rfl ?_
  refine zr_iload_n 2 6 C (by decide +kernel) rfl rfl ?_
  refine xs_30 7 C (by decide +kernel) rfl hf (fun σ1 hf => ?_)
  refine zr_aload_n 0 8 C (by decide +kernel) rfl rfl ?_
  refine xg_8_2 (idx := 20) 11 C (by decide +kernel) rfl q_315 ?_
  refine zr_iload_n 1 12 C (by decide +kernel) rfl rfl ?_
  refine zr_iload_n 3 13 C (by decide +kernel) rfl rfl ?_
  refine xs_31 14 C (by decide +kernel) rfl hf (fun σ2 hf => ?_)
  refine zr_aload_n 0 15 C (by decide +kernel) rfl rfl ?_
  refine xg_8_0 (idx := 11) 18 C (by decide +kernel) rfl q_311 ?_
  refine zr_iload_n 1 19 C (by decide +kernel) rfl rfl ?_
  refine xa_36 20 C (by decide +kernel) rfl hf (fun hf => ?_)
  refine zr_iconst (v := 0) 0 21 C (by decide +kernel) rfl rfl ?_
  refine xf_rows (idx := 23) 24 C (by decide +kernel) rfl q_310 (zb2 rfl rfl) (Nat.le_of_ble_eq_true rfl) hf (fun σ3 hf => ?_)
  obtain rfl := Option.some.inj hf
  exact zr_vret C (by decide +kernel) T
theorem y_St_renew : zY yX7_renew cX7_renew 4 none 3 := ⟨q_928, q_82, by decide +kernel, by decide +kernel, by decide +kernel⟩
theorem k_St_renew {l : Launch} {d : zD} {F : zF} {h : Nat → Nat} {σ : zS} {lv : List (Option Value)} {pc : Nat} {own : String} {cc : ByteArray} {nL fr lo idx : Nat} {rest : List Value} {β : Type} {kf : Int32 → zS → Option β} {o2 : β} {ad av : Nat → Nat}  {p1 : Int32} {p2 : Int32} {p3 : Int32} (pc' : Nat) (C : zOk d F own cc nL fr lo) (E : zXe d ad av) (hd : decode cc pc = .ok (.invokevirtual idx, 3)) (hp : pc + 3 = pc') (hq : Cond.methodLink own idx yX7_renew ∈ zW) (hm : 1 + 1 ≤ fr ∧ 8 + (4 + 11) + 23 ≤ lo) (hr : (rest.map fun v => v.category).sum ≤ 8) (hf : zbd (f_St_renew p1 p2 p3 σ) kf = some o2) (K : ∀ (r : Int32) (σ' : zS), kf r σ' = some o2 → V l d F 0 0 (XW d h σ') lv pc' (rest)) : V l d F 0 0 (XW d h σ) lv pc (.int p3 :: .int p2 :: .int p1 :: .ref (h 8) :: rest) := by
  obtain ⟨q, h1, h2⟩ := zbd_some hf
  exact zr_callV y_St_renew ⟨q_926, q_927⟩ 8 rfl rfl (As := [.int p1, .int p2, .int p3]) (m_St_renew E h1) rfl rfl pc' C hd hp hq hm hr (K _ _ h2)
/-! StepsBeyond$Texts.knows(I)Z -/
def f_Tx_knows (p1 : Int32) (σ : zS) : Option (Int32 × zS) :=
  (if p1 < 0 then
  some (0, σ)
  else
  (if (σ.1 202) ≤ p1 then
  some (0, σ)
  else
  some (1, σ)))
set_option maxRecDepth 4000 in
theorem m_Tx_knows {l : Launch} {d : zD} {h : Nat → Nat} {out : Int32 × zS} {σ : zS} {ad av : Nat → Nat} {p1 : Int32} (E : zXe d ad av) (hf : f_Tx_knows p1 σ = some out) : zM l yX8_knows cX8_knows 2 (some .boolean) 0 0 d [.ref (h 2), .int p1] (XW d h σ) (XW d h out.2) (some (.int out.1)) := by
  refine zM_of [some (.ref (h 2)), some (.int p1)] (by decide +kernel) rfl (Nat.le_of_ble_eq_true rfl) (fun F C T => ?_)
  unfold f_Tx_knows at hf
  refine zr_iload_n 1 1 C (by decide +kernel) rfl rfl ?_
  refine zr_if_lt (off := 15) 16 4 C (by decide +kernel) (by decide) rfl hf (fun hf => ?_) (fun hf => ?_)
  · refine zr_iconst (v := 0) 0 17 C (by decide +kernel) rfl rfl ?_
    obtain rfl := Option.some.inj hf
    exact zr_zret C (by decide +kernel) rfl T
  · refine zr_iload_n 1 5 C (by decide +kernel) rfl rfl ?_
    refine zr_aload_n 0 6 C (by decide +kernel) rfl rfl ?_
    refine xg_2_2 (idx := 19) 9 C (by decide +kernel) rfl q_151 ?_
    refine zr_icmp_ge (off := 7) 16 12 C (by decide +kernel) (by decide) rfl hf (fun hf => ?_) (fun hf => ?_)
    · refine zr_iconst (v := 0) 0 17 C (by decide +kernel) rfl rfl ?_
      obtain rfl := Option.some.inj hf
      exact zr_zret C (by decide +kernel) rfl T
    · refine zr_iconst (v := 1) 1 13 C (by decide +kernel) rfl rfl ?_
      refine zr_goto (off := 4) 17 C (by decide +kernel) (by decide) ?_
      obtain rfl := Option.some.inj hf
      exact zr_zret C (by decide +kernel) rfl T
theorem y_Tx_knows : zY yX8_knows cX8_knows 2 (some .boolean) 1 := ⟨q_690, q_74, by decide +kernel, by decide +kernel, by decide +kernel⟩
theorem k_Tx_knows {l : Launch} {d : zD} {F : zF} {h : Nat → Nat} {σ : zS} {lv : List (Option Value)} {pc : Nat} {own : String} {cc : ByteArray} {nL fr lo idx : Nat} {rest : List Value} {β : Type} {kf : Int32 → zS → Option β} {o2 : β} {ad av : Nat → Nat}  {p1 : Int32} (pc' : Nat) (C : zOk d F own cc nL fr lo) (E : zXe d ad av) (hd : decode cc pc = .ok (.invokevirtual idx, 3)) (hp : pc + 3 = pc') (hq : Cond.methodLink own idx yX8_knows ∈ zW) (hm : 0 + 1 ≤ fr ∧ 8 + (2 + 11) + 0 ≤ lo) (hr : (rest.map fun v => v.category).sum ≤ 8) (hf : zbd (f_Tx_knows p1 σ) kf = some o2) (K : ∀ (r : Int32) (σ' : zS), kf r σ' = some o2 → V l d F 0 0 (XW d h σ') lv pc' (.int r :: rest)) : V l d F 0 0 (XW d h σ) lv pc (.int p1 :: .ref (h 2) :: rest) := by
  obtain ⟨q, h1, h2⟩ := zbd_some hf
  exact zr_callV y_Tx_knows ⟨q_688, q_689⟩ 2 rfl rfl (As := [.int p1]) (m_Tx_knows E h1) rfl rfl pc' C hd hp hq hm hr (K _ _ h2)
/-! StepsBeyond$Area.clear(ZI)V -/
def f_Ar_clear_9 (p1 : Int32) (p2 : Int32) (σ : zS) : Option (Int32 × zS) :=
  zlt (zsg σ 901 0) fun σ1 =>
  zbo p1 (zlt (zsg σ1 907 p1) fun σ2 =>
  zlt (zsg σ2 908 0) fun σ3 =>
  zlt (zsg σ3 902 p2) fun σ4 =>
  zlt (zsg σ4 903 40) fun σ5 =>
  zlt (zsg σ5 905 40) fun σ6 =>
  zlt (zsg σ6 904 (-1)) fun σ7 =>
  zlt (zsg σ7 906 (-1)) fun σ8 =>
  some (0, σ8))
set_option maxRecDepth 4000 in
theorem m_Ar_clear_9 {l : Launch} {d : zD} {h : Nat → Nat} {out : Int32 × zS} {σ : zS} {ad av : Nat → Nat} {p1 : Int32} {p2 : Int32} (E : zXe d ad av) (hf : f_Ar_clear_9 p1 p2 σ = some out) : zM l yX0_clear cX0_clear 3 none 0 0 d [.ref (h 9), .int p1, .int p2] (XW d h σ) (XW d h out.2) none := by
  refine zM_of [some (.ref (h 9)), some (.int p1), some (.int p2)] (by decide +kernel) rfl (Nat.le_of_ble_eq_true rfl) (fun F C T => ?_)
  unfold f_Ar_clear_9 at hf
  refine zr_aload_n 0 1 C (by decide +kernel) rfl rfl ?_
  refine zr_iconst (v := 0) 0 2 C (by decide +kernel) rfl rfl ?_
  refine xp_9_1 (idx := 15) 5 C (by decide +kernel) rfl q_330 hf (fun σ1 hf => ?_)
  refine zr_aload_n 0 6 C (by decide +kernel) rfl rfl ?_
  refine zr_iload_n 1 7 C (by decide +kernel) rfl rfl ?_
  obtain ⟨hz, hf⟩ := zbo_some hf
  refine xp_9_7 (idx := 19) 10 C (by decide +kernel) rfl q_336 hz hf (fun σ2 hf => ?_)
  refine zr_aload_n 0 11 C (by decide +kernel) rfl rfl ?_
  refine zr_iconst (v := 0) 0 12 C (by decide +kernel) rfl rfl ?_
  refine xp_9_8 (idx := 23) 15 C (by decide +kernel) rfl q_337 rfl hf (fun σ3 hf => ?_)
  refine zr_aload_n 0 16 C (by decide +kernel) rfl rfl ?_
  refine zr_iload_n 2 17 C (by decide +kernel) rfl rfl ?_
  refine xp_9_2 (idx := 26) 20 C (by decide +kernel) rfl q_331 hf (fun σ4 hf => ?_)
  refine zr_aload_n 0 21 C (by decide +kernel) rfl rfl ?_
  refine zr_bipush (v := 40) 40 23 C (by decide +kernel) rfl rfl ?_
  refine xp_9_3 (idx := 29) 26 C (by decide +kernel) rfl q_332 hf (fun σ5 hf => ?_)
  refine zr_aload_n 0 27 C (by decide +kernel) rfl rfl ?_
  refine zr_bipush (v := 40) 40 29 C (by decide +kernel) rfl rfl ?_
  refine xp_9_5 (idx := 32) 32 C (by decide +kernel) rfl q_334 hf (fun σ6 hf => ?_)
  refine zr_aload_n 0 33 C (by decide +kernel) rfl rfl ?_
  refine zr_iconst (v := (-1)) (-1) 34 C (by decide +kernel) rfl rfl ?_
  refine xp_9_4 (idx := 35) 37 C (by decide +kernel) rfl q_333 hf (fun σ7 hf => ?_)
  refine zr_aload_n 0 38 C (by decide +kernel) rfl rfl ?_
  refine zr_iconst (v := (-1)) (-1) 39 C (by decide +kernel) rfl rfl ?_
  refine xp_9_6 (idx := 38) 42 C (by decide +kernel) rfl q_335 hf (fun σ8 hf => ?_)
  obtain rfl := Option.some.inj hf
  exact zr_vret C (by decide +kernel) T
theorem y_Ar_clear_9 : zY yX0_clear cX0_clear 3 none 2 := ⟨q_739, q_83, by decide +kernel, by decide +kernel, by decide +kernel⟩
theorem k_Ar_clear_9 {l : Launch} {d : zD} {F : zF} {h : Nat → Nat} {σ : zS} {lv : List (Option Value)} {pc : Nat} {own : String} {cc : ByteArray} {nL fr lo idx : Nat} {rest : List Value} {β : Type} {kf : Int32 → zS → Option β} {o2 : β} {ad av : Nat → Nat}  {p1 : Int32} {p2 : Int32} (pc' : Nat) (C : zOk d F own cc nL fr lo) (E : zXe d ad av) (hd : decode cc pc = .ok (.invokevirtual idx, 3)) (hp : pc + 3 = pc') (hq : Cond.methodLink own idx yX0_clear ∈ zW) (hm : 0 + 1 ≤ fr ∧ 8 + (3 + 11) + 0 ≤ lo) (hr : (rest.map fun v => v.category).sum ≤ 8) (hf : zbd (f_Ar_clear_9 p1 p2 σ) kf = some o2) (K : ∀ (r : Int32) (σ' : zS), kf r σ' = some o2 → V l d F 0 0 (XW d h σ') lv pc' (rest)) : V l d F 0 0 (XW d h σ) lv pc (.int p2 :: .int p1 :: .ref (h 9) :: rest) := by
  obtain ⟨q, h1, h2⟩ := zbd_some hf
  exact zr_callV y_Ar_clear_9 ⟨q_737, q_738⟩ 9 rfl rfl (As := [.int p1, .int p2]) (m_Ar_clear_9 E h1) rfl rfl pc' C hd hp hq hm hr (K _ _ h2)
/-! StepsBeyond$Area.include(I)V -/
def f_Ar_include_9 (p1 : Int32) (σ : zS) : Option (Int32 × zS) :=
  (if (σ.1 901) < 20 then
  zin (σ.1 901) 20 (zlt (zsa σ 32 (σ.1 901) p1) fun σ1 =>
  zlt (zsg σ1 901 ((σ1.1 901) + 1)) fun σ2 =>
  zlt (zsg σ2 903 (zmin (σ2.1 903) (zrem p1 40))) fun σ3 =>
  zlt (zsg σ3 904 (zmax (σ3.1 904) (zrem p1 40))) fun σ4 =>
  zlt (zsg σ4 905 (zmin (σ4.1 905) (p1 / 40))) fun σ5 =>
  zlt (zsg σ5 906 (zmax (σ5.1 906) (p1 / 40))) fun σ6 =>
  some (0, σ6))
  else
  some (0, σ))
set_option maxRecDepth 4000 in
theorem m_Ar_include_9 {l : Launch} {d : zD} {h : Nat → Nat} {out : Int32 × zS} {σ : zS} {ad av : Nat → Nat} {p1 : Int32} (E : zXe d ad av) (hf : f_Ar_include_9 p1 σ = some out) : zM l yX0_include cX0_include 2 none 1 21 d [.ref (h 9), .int p1] (XW d h σ) (XW d h out.2) none := by
  refine zM_of [some (.ref (h 9)), some (.int p1)] (by decide +kernel) rfl (Nat.le_of_ble_eq_true rfl) (fun F C T => ?_)
  unfold f_Ar_include_9 at hf
  refine zr_aload_n 0 1 C (by decide +kernel) rfl rfl ?_
  refine xg_9_1 (idx := 15) 4 C (by decide +kernel) rfl q_330 ?_
  refine zr_bipush (v := 20) 20 6 C (by decide +kernel) rfl rfl ?_
  refine zr_icmp_lt (off := 4) 10 9 C (by decide +kernel) (by decide) rfl hf (fun hf => ?_) (fun hf => ?_)
  · refine zr_aload_n 0 11 C (by decide +kernel) rfl rfl ?_
    refine xg_9_0 (idx := 9) 14 C (by decide +kernel) rfl q_329 ?_
    refine zr_aload_n 0 15 C (by decide +kernel) rfl rfl ?_
    refine xg_9_1 (idx := 15) 18 C (by decide +kernel) rfl q_330 ?_
    refine zr_iload_n 1 19 C (by decide +kernel) rfl rfl ?_
    refine xs_32 20 C (by decide +kernel) rfl hf (fun σ1 hf => ?_)
    refine zr_aload_n 0 21 C (by decide +kernel) rfl rfl ?_
    refine zr_dup 22 C (by decide +kernel) rfl rfl ?_
    refine xg_9_1 (idx := 15) 25 C (by decide +kernel) rfl q_330 ?_
    refine zr_iconst (v := 1) 1 26 C (by decide +kernel) rfl rfl ?_
    refine zr_iadd 27 C (by decide +kernel) rfl ?_
    refine xp_9_1 (idx := 15) 30 C (by decide +kernel) rfl q_330 hf (fun σ2 hf => ?_)
    refine zr_aload_n 0 31 C (by decide +kernel) rfl rfl ?_
    refine zr_aload_n 0 32 C (by decide +kernel) rfl rfl ?_
    refine xg_9_3 (idx := 29) 35 C (by decide +kernel) rfl q_332 ?_
    refine zr_iload_n 1 36 C (by decide +kernel) rfl rfl ?_
    refine zr_bipush (v := 40) 40 38 C (by decide +kernel) rfl rfl ?_
    refine zr_irem 39 C (by decide +kernel) rfl (by decide) ?_
    refine zr_mmin (idx := 41) 42 C (by decide +kernel) rfl q_744 (zb2 rfl rfl) (Nat.le_of_ble_eq_true rfl) ?_
    refine xp_9_3 (idx := 29) 45 C (by decide +kernel) rfl q_332 hf (fun σ3 hf => ?_)
    refine zr_aload_n 0 46 C (by decide +kernel) rfl rfl ?_
    refine zr_aload_n 0 47 C (by decide +kernel) rfl rfl ?_
    refine xg_9_4 (idx := 35) 50 C (by decide +kernel) rfl q_333 ?_
    refine zr_iload_n 1 51 C (by decide +kernel) rfl rfl ?_
    refine zr_bipush (v := 40) 40 53 C (by decide +kernel) rfl rfl ?_
    refine zr_irem 54 C (by decide +kernel) rfl (by decide) ?_
    refine zr_mmax (idx := 47) 57 C (by decide +kernel) rfl q_745 (zb2 rfl rfl) (Nat.le_of_ble_eq_true rfl) ?_
    refine xp_9_4 (idx := 35) 60 C (by decide +kernel) rfl q_333 hf (fun σ4 hf => ?_)
    refine zr_aload_n 0 61 C (by decide +kernel) rfl rfl ?_
    refine zr_aload_n 0 62 C (by decide +kernel) rfl rfl ?_
    refine xg_9_5 (idx := 32) 65 C (by decide +kernel) rfl q_334 ?_
    refine zr_iload_n 1 66 C (by decide +kernel) rfl rfl ?_
    refine zr_bipush (v := 40) 40 68 C (by decide +kernel) rfl rfl ?_
    refine zr_idiv 69 C (by decide +kernel) rfl (by decide) ?_
    refine zr_mmin (idx := 41) 72 C (by decide +kernel) rfl q_744 (zb2 rfl rfl) (Nat.le_of_ble_eq_true rfl) ?_
    refine xp_9_5 (idx := 32) 75 C (by decide +kernel) rfl q_334 hf (fun σ5 hf => ?_)
    refine zr_aload_n 0 76 C (by decide +kernel) rfl rfl ?_
    refine zr_aload_n 0 77 C (by decide +kernel) rfl rfl ?_
    refine xg_9_6 (idx := 38) 80 C (by decide +kernel) rfl q_335 ?_
    refine zr_iload_n 1 81 C (by decide +kernel) rfl rfl ?_
    refine zr_bipush (v := 40) 40 83 C (by decide +kernel) rfl rfl ?_
    refine zr_idiv 84 C (by decide +kernel) rfl (by decide) ?_
    refine zr_mmax (idx := 47) 87 C (by decide +kernel) rfl q_745 (zb2 rfl rfl) (Nat.le_of_ble_eq_true rfl) ?_
    refine xp_9_6 (idx := 38) 90 C (by decide +kernel) rfl q_335 hf (fun σ6 hf => ?_)
    obtain rfl := Option.some.inj hf
    exact zr_vret C (by decide +kernel) T
  · obtain rfl := Option.some.inj hf
    exact zr_vret C (by decide +kernel) T
theorem y_Ar_include_9 : zY yX0_include cX0_include 2 none 1 := ⟨q_743, q_83, by decide +kernel, by decide +kernel, by decide +kernel⟩
theorem k_Ar_include_9 {l : Launch} {d : zD} {F : zF} {h : Nat → Nat} {σ : zS} {lv : List (Option Value)} {pc : Nat} {own : String} {cc : ByteArray} {nL fr lo idx : Nat} {rest : List Value} {β : Type} {kf : Int32 → zS → Option β} {o2 : β} {ad av : Nat → Nat}  {p1 : Int32} (pc' : Nat) (C : zOk d F own cc nL fr lo) (E : zXe d ad av) (hd : decode cc pc = .ok (.invokevirtual idx, 3)) (hp : pc + 3 = pc') (hq : Cond.methodLink own idx yX0_include ∈ zW) (hm : 1 + 1 ≤ fr ∧ 8 + (2 + 11) + 21 ≤ lo) (hr : (rest.map fun v => v.category).sum ≤ 8) (hf : zbd (f_Ar_include_9 p1 σ) kf = some o2) (K : ∀ (r : Int32) (σ' : zS), kf r σ' = some o2 → V l d F 0 0 (XW d h σ') lv pc' (rest)) : V l d F 0 0 (XW d h σ) lv pc (.int p1 :: .ref (h 9) :: rest) := by
  obtain ⟨q, h1, h2⟩ := zbd_some hf
  exact zr_callV y_Ar_include_9 ⟨q_741, q_742⟩ 9 rfl rfl (As := [.int p1]) (m_Ar_include_9 E h1) rfl rfl pc' C hd hp hq hm hr (K _ _ h2)
/-! StepsBeyond$Area.fillUpTo(I)V -/
def f_Ar_fillUpTo_9_32  (y1 : Int32) (σ : zS) : Option (Int32 × zS) :=
  zbo y1 (zlt (zsg σ 908 y1) fun σ1 =>
  some (0, σ1))
set_option maxRecDepth 4000 in
theorem w_Ar_fillUpTo_9_32 {l : Launch} {d : zD} {F : zF} {h : Nat → Nat} {out : Int32 × zS} {ad av : Nat → Nat}   (C : zOk d F RX0 cX0_fillUpTo 2 0 0) (T : zRt d F none none (XW d h out.2)) (E : zXe d ad av)  (y1 : Int32) (σ : zS) (hf : f_Ar_fillUpTo_9_32  y1 σ = some out) : V l d F 0 0 (XW d h σ) [none, none] 32 [.int y1, .ref (h 9)] := by
  unfold f_Ar_fillUpTo_9_32 at hf
  obtain ⟨hz, hf⟩ := zbo_some hf
  refine xp_9_8 (idx := 23) 35 C (by decide +kernel) rfl q_337 hz hf (fun σ1 hf => ?_)
  obtain rfl := Option.some.inj hf
  exact zr_vret C (by decide +kernel) T
def f_Ar_fillUpTo_9_31   (σ : zS) : Option (Int32 × zS) :=
  f_Ar_fillUpTo_9_32 0 σ
set_option maxRecDepth 4000 in
theorem w_Ar_fillUpTo_9_31 {l : Launch} {d : zD} {F : zF} {h : Nat → Nat} {out : Int32 × zS} {ad av : Nat → Nat}   (C : zOk d F RX0 cX0_fillUpTo 2 0 0) (T : zRt d F none none (XW d h out.2)) (E : zXe d ad av)   (σ : zS) (hf : f_Ar_fillUpTo_9_31   σ = some out) : V l d F 0 0 (XW d h σ) [none, none] 31 [.ref (h 9)] := by
  unfold f_Ar_fillUpTo_9_31 at hf
  refine zr_iconst (v := 0) 0 32 C (by decide +kernel) rfl rfl ?_
  exact w_Ar_fillUpTo_9_32 C T E _ _ hf
def f_Ar_fillUpTo_9 (p1 : Int32) (σ : zS) : Option (Int32 × zS) :=
  (if p1 < ((σ.1 904) - (σ.1 903)) then
  f_Ar_fillUpTo_9_31 σ
  else
  (if p1 < ((σ.1 906) - (σ.1 905)) then
  f_Ar_fillUpTo_9_31 σ
  else
  f_Ar_fillUpTo_9_32 1 σ))
set_option maxRecDepth 4000 in
theorem m_Ar_fillUpTo_9 {l : Launch} {d : zD} {h : Nat → Nat} {out : Int32 × zS} {σ : zS} {ad av : Nat → Nat} {p1 : Int32} (E : zXe d ad av) (hf : f_Ar_fillUpTo_9 p1 σ = some out) : zM l yX0_fillUpTo cX0_fillUpTo 2 none 0 0 d [.ref (h 9), .int p1] (XW d h σ) (XW d h out.2) none := by
  refine zM_of [some (.ref (h 9)), some (.int p1)] (by decide +kernel) rfl (Nat.le_of_ble_eq_true rfl) (fun F C T => ?_)
  unfold f_Ar_fillUpTo_9 at hf
  refine zr_aload_n 0 1 C (by decide +kernel) rfl rfl ?_
  refine zr_aload_n 0 2 C (by decide +kernel) rfl rfl ?_
  refine xg_9_4 (idx := 35) 5 C (by decide +kernel) rfl q_333 ?_
  refine zr_aload_n 0 6 C (by decide +kernel) rfl rfl ?_
  refine xg_9_3 (idx := 29) 9 C (by decide +kernel) rfl q_332 ?_
  refine zr_isub 10 C (by decide +kernel) rfl ?_
  refine zr_iload_n 1 11 C (by decide +kernel) rfl rfl ?_
  refine zr_icmp_gt (off := 20) 31 14 C (by decide +kernel) (by decide) rfl hf (fun hf => ?_) (fun hf => ?_)
  · refine zr_less (zN (zN zE)) ?_
    exact w_Ar_fillUpTo_9_31 C T E _ hf
  · refine zr_aload_n 0 15 C (by decide +kernel) rfl rfl ?_
    refine xg_9_6 (idx := 38) 18 C (by decide +kernel) rfl q_335 ?_
    refine zr_aload_n 0 19 C (by decide +kernel) rfl rfl ?_
    refine xg_9_5 (idx := 32) 22 C (by decide +kernel) rfl q_334 ?_
    refine zr_isub 23 C (by decide +kernel) rfl ?_
    refine zr_iload_n 1 24 C (by decide +kernel) rfl rfl ?_
    refine zr_icmp_gt (off := 7) 31 27 C (by decide +kernel) (by decide) rfl hf (fun hf => ?_) (fun hf => ?_)
    · refine zr_less (zN (zN zE)) ?_
      exact w_Ar_fillUpTo_9_31 C T E _ hf
    · refine zr_iconst (v := 1) 1 28 C (by decide +kernel) rfl rfl ?_
      refine zr_goto (off := 4) 32 C (by decide +kernel) (by decide) ?_
      refine zr_less (zN (zN zE)) ?_
      exact w_Ar_fillUpTo_9_32 C T E _ _ hf
theorem y_Ar_fillUpTo_9 : zY yX0_fillUpTo cX0_fillUpTo 2 none 1 := ⟨q_756, q_83, by decide +kernel, by decide +kernel, by decide +kernel⟩
theorem k_Ar_fillUpTo_9 {l : Launch} {d : zD} {F : zF} {h : Nat → Nat} {σ : zS} {lv : List (Option Value)} {pc : Nat} {own : String} {cc : ByteArray} {nL fr lo idx : Nat} {rest : List Value} {β : Type} {kf : Int32 → zS → Option β} {o2 : β} {ad av : Nat → Nat}  {p1 : Int32} (pc' : Nat) (C : zOk d F own cc nL fr lo) (E : zXe d ad av) (hd : decode cc pc = .ok (.invokevirtual idx, 3)) (hp : pc + 3 = pc') (hq : Cond.methodLink own idx yX0_fillUpTo ∈ zW) (hm : 0 + 1 ≤ fr ∧ 8 + (2 + 11) + 0 ≤ lo) (hr : (rest.map fun v => v.category).sum ≤ 8) (hf : zbd (f_Ar_fillUpTo_9 p1 σ) kf = some o2) (K : ∀ (r : Int32) (σ' : zS), kf r σ' = some o2 → V l d F 0 0 (XW d h σ') lv pc' (rest)) : V l d F 0 0 (XW d h σ) lv pc (.int p1 :: .ref (h 9) :: rest) := by
  obtain ⟨q, h1, h2⟩ := zbd_some hf
  exact zr_callV y_Ar_fillUpTo_9 ⟨q_754, q_755⟩ 9 rfl rfl (As := [.int p1]) (m_Ar_fillUpTo_9 E h1) rfl rfl pc' C hd hp hq hm hr (K _ _ h2)
/-! StepsBeyond$Area.measureLoaf(II)V -/
def f_Ar_measureLoaf_9 (p1 : Int32) (p2 : Int32) (σ : zS) : Option (Int32 × zS) :=
  zbd (f_Ar_clear_9 1 p2 σ) fun _ σ1 =>
  zbd (f_Ar_include_9 p1 σ1) fun _ σ2 =>
  some (0, σ2)
set_option maxRecDepth 4000 in
theorem m_Ar_measureLoaf_9 {l : Launch} {d : zD} {h : Nat → Nat} {out : Int32 × zS} {σ : zS} {ad av : Nat → Nat} {p1 : Int32} {p2 : Int32} (E : zXe d ad av) (hf : f_Ar_measureLoaf_9 p1 p2 σ = some out) : zM l yX0_measureLoaf cX0_measureLoaf 3 none 2 42 d [.ref (h 9), .int p1, .int p2] (XW d h σ) (XW d h out.2) none := by
  refine zM_of [some (.ref (h 9)), some (.int p1), some (.int p2)] (by decide +kernel) rfl (Nat.le_of_ble_eq_true rfl) (fun F C T => ?_)
  unfold f_Ar_measureLoaf_9 at hf
  refine zr_aload_n 0 1 C (by decide +kernel) rfl rfl ?_
  refine zr_iconst (v := 1) 1 2 C (by decide +kernel) rfl rfl ?_
  refine zr_iload_n 2 3 C (by decide +kernel) rfl rfl ?_
  refine k_Ar_clear_9 (idx := 50) 6 C E (by decide +kernel) rfl q_736 (zb2 rfl rfl) (Nat.le_of_ble_eq_true rfl) hf (fun _ σ1 hf => ?_)
  refine zr_aload_n 0 7 C (by decide +kernel) rfl rfl ?_
  refine zr_iload_n 1 8 C (by decide +kernel) rfl rfl ?_
  refine k_Ar_include_9 (idx := 54) 11 C E (by decide +kernel) rfl q_740 (zb2 rfl rfl) (Nat.le_of_ble_eq_true rfl) hf (fun _ σ2 hf => ?_)
  obtain rfl := Option.some.inj hf
  exact zr_vret C (by decide +kernel) T
theorem y_Ar_measureLoaf_9 : zY yX0_measureLoaf cX0_measureLoaf 3 none 2 := ⟨q_735, q_83, by decide +kernel, by decide +kernel, by decide +kernel⟩
theorem k_Ar_measureLoaf_9 {l : Launch} {d : zD} {F : zF} {h : Nat → Nat} {σ : zS} {lv : List (Option Value)} {pc : Nat} {own : String} {cc : ByteArray} {nL fr lo idx : Nat} {rest : List Value} {β : Type} {kf : Int32 → zS → Option β} {o2 : β} {ad av : Nat → Nat}  {p1 : Int32} {p2 : Int32} (pc' : Nat) (C : zOk d F own cc nL fr lo) (E : zXe d ad av) (hd : decode cc pc = .ok (.invokevirtual idx, 3)) (hp : pc + 3 = pc') (hq : Cond.methodLink own idx yX0_measureLoaf ∈ zW) (hm : 2 + 1 ≤ fr ∧ 8 + (3 + 11) + 42 ≤ lo) (hr : (rest.map fun v => v.category).sum ≤ 8) (hf : zbd (f_Ar_measureLoaf_9 p1 p2 σ) kf = some o2) (K : ∀ (r : Int32) (σ' : zS), kf r σ' = some o2 → V l d F 0 0 (XW d h σ') lv pc' (rest)) : V l d F 0 0 (XW d h σ) lv pc (.int p2 :: .int p1 :: .ref (h 9) :: rest) := by
  obtain ⟨q, h1, h2⟩ := zbd_some hf
  exact zr_callV y_Ar_measureLoaf_9 ⟨q_733, q_734⟩ 9 rfl rfl (As := [.int p1, .int p2]) (m_Ar_measureLoaf_9 E h1) rfl rfl pc' C hd hp hq hm hr (K _ _ h2)
/-! StepsBeyond$Area.isInBox(II)Z -/
def f_Ar_isInBox_9 (p1 : Int32) (p2 : Int32) (σ : zS) : Option (Int32 × zS) :=
  zbd (f_X_isFrom (zrem p1 40) ((σ.1 903) - p2) ((σ.1 904) + p2) σ) fun r2 σ1 =>
  (if r2 = 0 then
  some (0, σ1)
  else
  zbd (f_X_isFrom (p1 / 40) ((σ1.1 905) - p2) ((σ1.1 906) + p2) σ1) fun r4 σ3 =>
  (if r4 = 0 then
  some (0, σ3)
  else
  some (1, σ3)))
set_option maxRecDepth 4000 in
theorem m_Ar_isInBox_9 {l : Launch} {d : zD} {h : Nat → Nat} {out : Int32 × zS} {σ : zS} {ad av : Nat → Nat} {p1 : Int32} {p2 : Int32} (E : zXe d ad av) (hf : f_Ar_isInBox_9 p1 p2 σ = some out) : zM l yX0_isInBox cX0_isInBox 3 (some .boolean) 1 22 d [.ref (h 9), .int p1, .int p2] (XW d h σ) (XW d h out.2) (some (.int out.1)) := by
  refine zM_of [some (.ref (h 9)), some (.int p1), some (.int p2)] (by decide +kernel) rfl (Nat.le_of_ble_eq_true rfl) (fun F C T => ?_)
  unfold f_Ar_isInBox_9 at hf
  refine zr_iload_n 1 1 C (by decide +kernel) rfl rfl ?_
  refine zr_bipush (v := 40) 40 3 C (by decide +kernel) rfl rfl ?_
  refine zr_irem 4 C (by decide +kernel) rfl (by decide) ?_
  refine zr_aload_n 0 5 C (by decide +kernel) rfl rfl ?_
  refine xg_9_3 (idx := 29) 8 C (by decide +kernel) rfl q_332 ?_
  refine zr_iload_n 2 9 C (by decide +kernel) rfl rfl ?_
  refine zr_isub 10 C (by decide +kernel) rfl ?_
  refine zr_aload_n 0 11 C (by decide +kernel) rfl rfl ?_
  refine xg_9_4 (idx := 35) 14 C (by decide +kernel) rfl q_333 ?_
  refine zr_iload_n 2 15 C (by decide +kernel) rfl rfl ?_
  refine zr_iadd 16 C (by decide +kernel) rfl ?_
  refine kN_X_isFrom (idx := 66) 19 C E (by decide +kernel) rfl (zn_9 E) (zb2 rfl rfl) (Nat.le_of_ble_eq_true rfl) hf (fun r2 σ1 hf => ?_)
  refine zr_if_eq (off := 29) 48 22 C (by decide +kernel) (by decide) rfl hf (fun hf => ?_) (fun hf => ?_)
  · refine zr_iconst (v := 0) 0 49 C (by decide +kernel) rfl rfl ?_
    obtain rfl := Option.some.inj hf
    exact zr_zret C (by decide +kernel) rfl T
  · refine zr_iload_n 1 23 C (by decide +kernel) rfl rfl ?_
    refine zr_bipush (v := 40) 40 25 C (by decide +kernel) rfl rfl ?_
    refine zr_idiv 26 C (by decide +kernel) rfl (by decide) ?_
    refine zr_aload_n 0 27 C (by decide +kernel) rfl rfl ?_
    refine xg_9_5 (idx := 32) 30 C (by decide +kernel) rfl q_334 ?_
    refine zr_iload_n 2 31 C (by decide +kernel) rfl rfl ?_
    refine zr_isub 32 C (by decide +kernel) rfl ?_
    refine zr_aload_n 0 33 C (by decide +kernel) rfl rfl ?_
    refine xg_9_6 (idx := 38) 36 C (by decide +kernel) rfl q_335 ?_
    refine zr_iload_n 2 37 C (by decide +kernel) rfl rfl ?_
    refine zr_iadd 38 C (by decide +kernel) rfl ?_
    refine kN_X_isFrom (idx := 66) 41 C E (by decide +kernel) rfl (zn_9 E) (zb2 rfl rfl) (Nat.le_of_ble_eq_true rfl) hf (fun r4 σ3 hf => ?_)
    refine zr_if_eq (off := 7) 48 44 C (by decide +kernel) (by decide) rfl hf (fun hf => ?_) (fun hf => ?_)
    · refine zr_iconst (v := 0) 0 49 C (by decide +kernel) rfl rfl ?_
      obtain rfl := Option.some.inj hf
      exact zr_zret C (by decide +kernel) rfl T
    · refine zr_iconst (v := 1) 1 45 C (by decide +kernel) rfl rfl ?_
      refine zr_goto (off := 4) 49 C (by decide +kernel) (by decide) ?_
      obtain rfl := Option.some.inj hf
      exact zr_zret C (by decide +kernel) rfl T
theorem y_Ar_isInBox_9 : zY yX0_isInBox cX0_isInBox 3 (some .boolean) 2 := ⟨q_764, q_83, by decide +kernel, by decide +kernel, by decide +kernel⟩
theorem k_Ar_isInBox_9 {l : Launch} {d : zD} {F : zF} {h : Nat → Nat} {σ : zS} {lv : List (Option Value)} {pc : Nat} {own : String} {cc : ByteArray} {nL fr lo idx : Nat} {rest : List Value} {β : Type} {kf : Int32 → zS → Option β} {o2 : β} {ad av : Nat → Nat}  {p1 : Int32} {p2 : Int32} (pc' : Nat) (C : zOk d F own cc nL fr lo) (E : zXe d ad av) (hd : decode cc pc = .ok (.invokevirtual idx, 3)) (hp : pc + 3 = pc') (hq : Cond.methodLink own idx yX0_isInBox ∈ zW) (hm : 1 + 1 ≤ fr ∧ 8 + (3 + 11) + 22 ≤ lo) (hr : (rest.map fun v => v.category).sum ≤ 8) (hf : zbd (f_Ar_isInBox_9 p1 p2 σ) kf = some o2) (K : ∀ (r : Int32) (σ' : zS), kf r σ' = some o2 → V l d F 0 0 (XW d h σ') lv pc' (.int r :: rest)) : V l d F 0 0 (XW d h σ) lv pc (.int p2 :: .int p1 :: .ref (h 9) :: rest) := by
  obtain ⟨q, h1, h2⟩ := zbd_some hf
  exact zr_callV y_Ar_isInBox_9 ⟨q_763, q_22⟩ 9 rfl rfl (As := [.int p1, .int p2]) (m_Ar_isInBox_9 E h1) rfl rfl pc' C hd hp hq hm hr (K _ _ h2)
/-! StepsBeyond$Area.isByOne(I)Z -/
def f_Ar_isByOne_9_2b (k2 : Int32 → Int32 → zS → Option (Int32 × zS)) (x1 : Int32) (x2 : Int32) (σ : zS) : Option (Int32 × zS) :=
  (if (σ.1 901) ≤ x2 then
  some (0, σ)
  else
  zin x2 20 (zbd (f_X_apart x1 (σ.2 32 x2.toNatClampNeg) σ) fun r2 σ1 =>
  (if (σ1.1 902) < r2 then
  k2 x1 (x2 + 1) σ1
  else
  some (1, σ1))))
set_option maxRecDepth 4000 in
theorem w_Ar_isByOne_9_2b {l : Launch} {d : zD} {F : zF} {h : Nat → Nat} {out : Int32 × zS} {ad av : Nat → Nat}  {k2 : Int32 → Int32 → zS → Option (Int32 × zS)} (C : zOk d F RX0 cX0_isByOne 3 2 42) (T : zRt d F (some .boolean) (some (.int out.1)) (XW d h out.2)) (E : zXe d ad av) (H2 : ∀ (x1 : Int32) (x2 : Int32) (σ : zS), k2 x1 x2 σ = some out → V l d F 0 0 (XW d h σ) [some (.ref (h 9)), some (.int x1), some (.int x2)] 2 []) (x1 : Int32) (x2 : Int32) (σ : zS) (hf : f_Ar_isByOne_9_2b k2 x1 x2 σ = some out) : V l d F 0 0 (XW d h σ) [some (.ref (h 9)), some (.int x1), some (.int x2)] 2 [] := by
  unfold f_Ar_isByOne_9_2b at hf
  refine zr_iload_n 2 3 C (by decide +kernel) rfl rfl ?_
  refine zr_aload_n 0 4 C (by decide +kernel) rfl rfl ?_
  refine xg_9_1 (idx := 15) 7 C (by decide +kernel) rfl q_330 ?_
  refine zr_icmp_ge (off := 28) 35 10 C (by decide +kernel) (by decide) rfl hf (fun hf => ?_) (fun hf => ?_)
  · refine zr_iconst (v := 0) 0 36 C (by decide +kernel) rfl rfl ?_
    obtain rfl := Option.some.inj hf
    exact zr_zret C (by decide +kernel) rfl T
  · refine zr_iload_n 1 11 C (by decide +kernel) rfl rfl ?_
    refine zr_aload_n 0 12 C (by decide +kernel) rfl rfl ?_
    refine xg_9_0 (idx := 9) 15 C (by decide +kernel) rfl q_329 ?_
    refine zr_iload_n 2 16 C (by decide +kernel) rfl rfl ?_
    refine xl_32 17 C (by decide +kernel) rfl hf (fun hf => ?_)
    refine kN_X_apart (idx := 70) 20 C E (by decide +kernel) rfl (zn_10 E) (zb2 rfl rfl) (Nat.le_of_ble_eq_true rfl) hf (fun r2 σ1 hf => ?_)
    refine zr_aload_n 0 21 C (by decide +kernel) rfl rfl ?_
    refine xg_9_2 (idx := 26) 24 C (by decide +kernel) rfl q_331 ?_
    refine zr_icmp_gt (off := 5) 29 27 C (by decide +kernel) (by decide) rfl hf (fun hf => ?_) (fun hf => ?_)
    · refine zr_iinc (j := 1) 2 [some (.ref (h 9)), some (.int x1), some (.int (x2 + 1))] 32 C (by decide +kernel) rfl rfl rfl (by decide) rfl rfl ?_
      refine zr_goto (off := -30) 2 C (by decide +kernel) (by decide) ?_
      exact H2 _ _ _ hf
    · refine zr_iconst (v := 1) 1 28 C (by decide +kernel) rfl rfl ?_
      obtain rfl := Option.some.inj hf
      exact zr_zret C (by decide +kernel) rfl T
def f_Ar_isByOne_9_2  : Nat → Int32 → Int32 → zS → Option (Int32 × zS)
  | 0, _, _, _ => none
  | n + 1, x1, x2,  σ => f_Ar_isByOne_9_2b (fun x1 x2 σ => f_Ar_isByOne_9_2  n x1 x2 σ) x1 x2 σ
theorem w_Ar_isByOne_9_2 {l : Launch} {d : zD} {F : zF} {h : Nat → Nat} {out : Int32 × zS} {ad av : Nat → Nat}   (C : zOk d F RX0 cX0_isByOne 3 2 42) (T : zRt d F (some .boolean) (some (.int out.1)) (XW d h out.2)) (E : zXe d ad av)  : ∀ (n : Nat) (x1 : Int32) (x2 : Int32) (σ : zS), f_Ar_isByOne_9_2  n x1 x2 σ = some out → V l d F 0 0 (XW d h σ) [some (.ref (h 9)), some (.int x1), some (.int x2)] 2 [] := by
  intro n
  induction n with
  | zero =>
    intro x1 x2 σ hf
    cases hf
  | succ n ih =>
    intro x1 x2 σ hf
    exact w_Ar_isByOne_9_2b C T E ih x1 x2 σ hf
def f_Ar_isByOne_9 (p1 : Int32) (σ : zS) : Option (Int32 × zS) :=
  f_Ar_isByOne_9_2 zfu p1 0 σ
set_option maxRecDepth 4000 in
theorem m_Ar_isByOne_9 {l : Launch} {d : zD} {h : Nat → Nat} {out : Int32 × zS} {σ : zS} {ad av : Nat → Nat} {p1 : Int32} (E : zXe d ad av) (hf : f_Ar_isByOne_9 p1 σ = some out) : zM l yX0_isByOne cX0_isByOne 3 (some .boolean) 2 42 d [.ref (h 9), .int p1] (XW d h σ) (XW d h out.2) (some (.int out.1)) := by
  refine zM_of [some (.ref (h 9)), some (.int p1), none] (by decide +kernel) rfl (Nat.le_of_ble_eq_true rfl) (fun F C T => ?_)
  unfold f_Ar_isByOne_9 at hf
  refine zr_iconst (v := 0) 0 1 C (by decide +kernel) rfl rfl ?_
  refine zr_istore_n 2 [some (.ref (h 9)), some (.int p1), some (.int 0)] 2 C (by decide +kernel) rfl (by decide) rfl rfl ?_
  exact w_Ar_isByOne_9_2 C T E zfu _ _ _ hf
theorem y_Ar_isByOne_9 : zY yX0_isByOne cX0_isByOne 3 (some .boolean) 1 := ⟨q_769, q_83, by decide +kernel, by decide +kernel, by decide +kernel⟩
theorem k_Ar_isByOne_9 {l : Launch} {d : zD} {F : zF} {h : Nat → Nat} {σ : zS} {lv : List (Option Value)} {pc : Nat} {own : String} {cc : ByteArray} {nL fr lo idx : Nat} {rest : List Value} {β : Type} {kf : Int32 → zS → Option β} {o2 : β} {ad av : Nat → Nat}  {p1 : Int32} (pc' : Nat) (C : zOk d F own cc nL fr lo) (E : zXe d ad av) (hd : decode cc pc = .ok (.invokevirtual idx, 3)) (hp : pc + 3 = pc') (hq : Cond.methodLink own idx yX0_isByOne ∈ zW) (hm : 2 + 1 ≤ fr ∧ 8 + (3 + 11) + 42 ≤ lo) (hr : (rest.map fun v => v.category).sum ≤ 8) (hf : zbd (f_Ar_isByOne_9 p1 σ) kf = some o2) (K : ∀ (r : Int32) (σ' : zS), kf r σ' = some o2 → V l d F 0 0 (XW d h σ') lv pc' (.int r :: rest)) : V l d F 0 0 (XW d h σ) lv pc (.int p1 :: .ref (h 9) :: rest) := by
  obtain ⟨q, h1, h2⟩ := zbd_some hf
  exact zr_callV y_Ar_isByOne_9 ⟨q_768, q_23⟩ 9 rfl rfl (As := [.int p1]) (m_Ar_isByOne_9 E h1) rfl rfl pc' C hd hp hq hm hr (K _ _ h2)
/-! StepsBeyond$Area.holds(I)Z -/
def f_Ar_holds_9_41   (σ : zS) : Option (Int32 × zS) :=
  some (1, σ)
set_option maxRecDepth 4000 in
theorem w_Ar_holds_9_41 {l : Launch} {d : zD} {F : zF} {h : Nat → Nat} {out : Int32 × zS} {ad av : Nat → Nat}   (C : zOk d F RX0 cX0_holds 2 3 64) (T : zRt d F (some .boolean) (some (.int out.1)) (XW d h out.2)) (E : zXe d ad av)   (σ : zS) (hf : f_Ar_holds_9_41   σ = some out) : V l d F 0 0 (XW d h σ) [none, none] 41 [] := by
  unfold f_Ar_holds_9_41 at hf
  refine zr_iconst (v := 1) 1 42 C (by decide +kernel) rfl rfl ?_
  refine zr_goto (off := 4) 46 C (by decide +kernel) (by decide) ?_
  obtain rfl := Option.some.inj hf
  exact zr_zret C (by decide +kernel) rfl T
def f_Ar_holds_9_33  (x1 : Int32) (σ : zS) : Option (Int32 × zS) :=
  zbd (f_Ar_isByOne_9 x1 σ) fun r2 σ1 =>
  (if r2 = 0 then
  some (0, σ1)
  else
  f_Ar_holds_9_41 σ1)
set_option maxRecDepth 4000 in
theorem w_Ar_holds_9_33 {l : Launch} {d : zD} {F : zF} {h : Nat → Nat} {out : Int32 × zS} {ad av : Nat → Nat}   (C : zOk d F RX0 cX0_holds 2 3 64) (T : zRt d F (some .boolean) (some (.int out.1)) (XW d h out.2)) (E : zXe d ad av)  (x1 : Int32) (σ : zS) (hf : f_Ar_holds_9_33  x1 σ = some out) : V l d F 0 0 (XW d h σ) [some (.ref (h 9)), some (.int x1)] 33 [] := by
  unfold f_Ar_holds_9_33 at hf
  refine zr_aload_n 0 34 C (by decide +kernel) rfl rfl ?_
  refine zr_iload_n 1 35 C (by decide +kernel) rfl rfl ?_
  refine k_Ar_isByOne_9 (idx := 62) 38 C E (by decide +kernel) rfl q_766 (zb2 rfl rfl) (Nat.le_of_ble_eq_true rfl) hf (fun r2 σ1 hf => ?_)
  refine zr_if_eq (off := 7) 45 41 C (by decide +kernel) (by decide) rfl hf (fun hf => ?_) (fun hf => ?_)
  · refine zr_iconst (v := 0) 0 46 C (by decide +kernel) rfl rfl ?_
    obtain rfl := Option.some.inj hf
    exact zr_zret C (by decide +kernel) rfl T
  · refine zr_less (zN (zN zE)) ?_
    exact w_Ar_holds_9_41 C T E _ hf
def f_Ar_holds_9 (p1 : Int32) (σ : zS) : Option (Int32 × zS) :=
  (if (σ.1 907) = 0 then
  (if (σ.1 908) = 0 then
  f_Ar_holds_9_33 p1 σ
  else
  zbd (f_Ar_isInBox_9 p1 0 σ) fun r2 σ1 =>
  (if r2 = 0 then
  f_Ar_holds_9_33 p1 σ1
  else
  f_Ar_holds_9_41 σ1))
  else
  zbd (f_Ar_isInBox_9 p1 (σ.1 902) σ) fun r4 σ3 =>
  zbo r4 (some (r4, σ3)))
set_option maxRecDepth 4000 in
theorem m_Ar_holds_9 {l : Launch} {d : zD} {h : Nat → Nat} {out : Int32 × zS} {σ : zS} {ad av : Nat → Nat} {p1 : Int32} (E : zXe d ad av) (hf : f_Ar_holds_9 p1 σ = some out) : zM l yX0_holds cX0_holds 2 (some .boolean) 3 64 d [.ref (h 9), .int p1] (XW d h σ) (XW d h out.2) (some (.int out.1)) := by
  refine zM_of [some (.ref (h 9)), some (.int p1)] (by decide +kernel) rfl (Nat.le_of_ble_eq_true rfl) (fun F C T => ?_)
  unfold f_Ar_holds_9 at hf
  refine zr_aload_n 0 1 C (by decide +kernel) rfl rfl ?_
  refine xg_9_7 (idx := 19) 4 C (by decide +kernel) rfl q_336 ?_
  refine zr_if_eq (off := 13) 17 7 C (by decide +kernel) (by decide) rfl hf (fun hf => ?_) (fun hf => ?_)
  · refine zr_aload_n 0 18 C (by decide +kernel) rfl rfl ?_
    refine xg_9_8 (idx := 23) 21 C (by decide +kernel) rfl q_337 ?_
    refine zr_if_eq (off := 12) 33 24 C (by decide +kernel) (by decide) rfl hf (fun hf => ?_) (fun hf => ?_)
    · exact w_Ar_holds_9_33 C T E _ _ hf
    · refine zr_aload_n 0 25 C (by decide +kernel) rfl rfl ?_
      refine zr_iload_n 1 26 C (by decide +kernel) rfl rfl ?_
      refine zr_iconst (v := 0) 0 27 C (by decide +kernel) rfl rfl ?_
      refine k_Ar_isInBox_9 (idx := 58) 30 C E (by decide +kernel) rfl q_761 (zb2 rfl rfl) (Nat.le_of_ble_eq_true rfl) hf (fun r2 σ1 hf => ?_)
      refine zr_if_ne (off := 11) 41 33 C (by decide +kernel) (by decide) rfl hf (fun hf => ?_) (fun hf => ?_)
      · refine zr_less (zN (zN zE)) ?_
        exact w_Ar_holds_9_41 C T E _ hf
      · exact w_Ar_holds_9_33 C T E _ _ hf
  · refine zr_aload_n 0 8 C (by decide +kernel) rfl rfl ?_
    refine zr_iload_n 1 9 C (by decide +kernel) rfl rfl ?_
    refine zr_aload_n 0 10 C (by decide +kernel) rfl rfl ?_
    refine xg_9_2 (idx := 26) 13 C (by decide +kernel) rfl q_331 ?_
    refine k_Ar_isInBox_9 (idx := 58) 16 C E (by decide +kernel) rfl q_761 (zb2 rfl rfl) (Nat.le_of_ble_eq_true rfl) hf (fun r4 σ3 hf => ?_)
    obtain ⟨hz, hf⟩ := zbo_some hf
    obtain rfl := Option.some.inj hf
    exact zr_zret C (by decide +kernel) hz T
theorem y_Ar_holds_9 : zY yX0_holds cX0_holds 2 (some .boolean) 1 := ⟨q_760, q_83, by decide +kernel, by decide +kernel, by decide +kernel⟩
theorem k_Ar_holds_9 {l : Launch} {d : zD} {F : zF} {h : Nat → Nat} {σ : zS} {lv : List (Option Value)} {pc : Nat} {own : String} {cc : ByteArray} {nL fr lo idx : Nat} {rest : List Value} {β : Type} {kf : Int32 → zS → Option β} {o2 : β} {ad av : Nat → Nat}  {p1 : Int32} (pc' : Nat) (C : zOk d F own cc nL fr lo) (E : zXe d ad av) (hd : decode cc pc = .ok (.invokevirtual idx, 3)) (hp : pc + 3 = pc') (hq : Cond.methodLink own idx yX0_holds ∈ zW) (hm : 3 + 1 ≤ fr ∧ 8 + (2 + 11) + 64 ≤ lo) (hr : (rest.map fun v => v.category).sum ≤ 8) (hf : zbd (f_Ar_holds_9 p1 σ) kf = some o2) (K : ∀ (r : Int32) (σ' : zS), kf r σ' = some o2 → V l d F 0 0 (XW d h σ') lv pc' (.int r :: rest)) : V l d F 0 0 (XW d h σ) lv pc (.int p1 :: .ref (h 9) :: rest) := by
  obtain ⟨q, h1, h2⟩ := zbd_some hf
  exact zr_callV y_Ar_holds_9 ⟨q_758, q_759⟩ 9 rfl rfl (As := [.int p1]) (m_Ar_holds_9 E h1) rfl rfl pc' C hd hp hq hm hr (K _ _ h2)
/-! StepsBeyond$Area.clear(ZI)V -/
def f_Ar_clear_10 (p1 : Int32) (p2 : Int32) (σ : zS) : Option (Int32 × zS) :=
  zlt (zsg σ 1001 0) fun σ1 =>
  zbo p1 (zlt (zsg σ1 1007 p1) fun σ2 =>
  zlt (zsg σ2 1008 0) fun σ3 =>
  zlt (zsg σ3 1002 p2) fun σ4 =>
  zlt (zsg σ4 1003 40) fun σ5 =>
  zlt (zsg σ5 1005 40) fun σ6 =>
  zlt (zsg σ6 1004 (-1)) fun σ7 =>
  zlt (zsg σ7 1006 (-1)) fun σ8 =>
  some (0, σ8))
set_option maxRecDepth 4000 in
theorem m_Ar_clear_10 {l : Launch} {d : zD} {h : Nat → Nat} {out : Int32 × zS} {σ : zS} {ad av : Nat → Nat} {p1 : Int32} {p2 : Int32} (E : zXe d ad av) (hf : f_Ar_clear_10 p1 p2 σ = some out) : zM l yX0_clear cX0_clear 3 none 0 0 d [.ref (h 10), .int p1, .int p2] (XW d h σ) (XW d h out.2) none := by
  refine zM_of [some (.ref (h 10)), some (.int p1), some (.int p2)] (by decide +kernel) rfl (Nat.le_of_ble_eq_true rfl) (fun F C T => ?_)
  unfold f_Ar_clear_10 at hf
  refine zr_aload_n 0 1 C (by decide +kernel) rfl rfl ?_
  refine zr_iconst (v := 0) 0 2 C (by decide +kernel) rfl rfl ?_
  refine xp_10_1 (idx := 15) 5 C (by decide +kernel) rfl q_330 hf (fun σ1 hf => ?_)
  refine zr_aload_n 0 6 C (by decide +kernel) rfl rfl ?_
  refine zr_iload_n 1 7 C (by decide +kernel) rfl rfl ?_
  obtain ⟨hz, hf⟩ := zbo_some hf
  refine xp_10_7 (idx := 19) 10 C (by decide +kernel) rfl q_336 hz hf (fun σ2 hf => ?_)
  refine zr_aload_n 0 11 C (by decide +kernel) rfl rfl ?_
  refine zr_iconst (v := 0) 0 12 C (by decide +kernel) rfl rfl ?_
  refine xp_10_8 (idx := 23) 15 C (by decide +kernel) rfl q_337 rfl hf (fun σ3 hf => ?_)
  refine zr_aload_n 0 16 C (by decide +kernel) rfl rfl ?_
  refine zr_iload_n 2 17 C (by decide +kernel) rfl rfl ?_
  refine xp_10_2 (idx := 26) 20 C (by decide +kernel) rfl q_331 hf (fun σ4 hf => ?_)
  refine zr_aload_n 0 21 C (by decide +kernel) rfl rfl ?_
  refine zr_bipush (v := 40) 40 23 C (by decide +kernel) rfl rfl ?_
  refine xp_10_3 (idx := 29) 26 C (by decide +kernel) rfl q_332 hf (fun σ5 hf => ?_)
  refine zr_aload_n 0 27 C (by decide +kernel) rfl rfl ?_
  refine zr_bipush (v := 40) 40 29 C (by decide +kernel) rfl rfl ?_
  refine xp_10_5 (idx := 32) 32 C (by decide +kernel) rfl q_334 hf (fun σ6 hf => ?_)
  refine zr_aload_n 0 33 C (by decide +kernel) rfl rfl ?_
  refine zr_iconst (v := (-1)) (-1) 34 C (by decide +kernel) rfl rfl ?_
  refine xp_10_4 (idx := 35) 37 C (by decide +kernel) rfl q_333 hf (fun σ7 hf => ?_)
  refine zr_aload_n 0 38 C (by decide +kernel) rfl rfl ?_
  refine zr_iconst (v := (-1)) (-1) 39 C (by decide +kernel) rfl rfl ?_
  refine xp_10_6 (idx := 38) 42 C (by decide +kernel) rfl q_335 hf (fun σ8 hf => ?_)
  obtain rfl := Option.some.inj hf
  exact zr_vret C (by decide +kernel) T
theorem y_Ar_clear_10 : zY yX0_clear cX0_clear 3 none 2 := ⟨q_739, q_83, by decide +kernel, by decide +kernel, by decide +kernel⟩
theorem k_Ar_clear_10 {l : Launch} {d : zD} {F : zF} {h : Nat → Nat} {σ : zS} {lv : List (Option Value)} {pc : Nat} {own : String} {cc : ByteArray} {nL fr lo idx : Nat} {rest : List Value} {β : Type} {kf : Int32 → zS → Option β} {o2 : β} {ad av : Nat → Nat}  {p1 : Int32} {p2 : Int32} (pc' : Nat) (C : zOk d F own cc nL fr lo) (E : zXe d ad av) (hd : decode cc pc = .ok (.invokevirtual idx, 3)) (hp : pc + 3 = pc') (hq : Cond.methodLink own idx yX0_clear ∈ zW) (hm : 0 + 1 ≤ fr ∧ 8 + (3 + 11) + 0 ≤ lo) (hr : (rest.map fun v => v.category).sum ≤ 8) (hf : zbd (f_Ar_clear_10 p1 p2 σ) kf = some o2) (K : ∀ (r : Int32) (σ' : zS), kf r σ' = some o2 → V l d F 0 0 (XW d h σ') lv pc' (rest)) : V l d F 0 0 (XW d h σ) lv pc (.int p2 :: .int p1 :: .ref (h 10) :: rest) := by
  obtain ⟨q, h1, h2⟩ := zbd_some hf
  exact zr_callV y_Ar_clear_10 ⟨q_737, q_738⟩ 10 rfl rfl (As := [.int p1, .int p2]) (m_Ar_clear_10 E h1) rfl rfl pc' C hd hp hq hm hr (K _ _ h2)
/-! StepsBeyond$Area.include(I)V -/
def f_Ar_include_10 (p1 : Int32) (σ : zS) : Option (Int32 × zS) :=
  (if (σ.1 1001) < 20 then
  zin (σ.1 1001) 20 (zlt (zsa σ 33 (σ.1 1001) p1) fun σ1 =>
  zlt (zsg σ1 1001 ((σ1.1 1001) + 1)) fun σ2 =>
  zlt (zsg σ2 1003 (zmin (σ2.1 1003) (zrem p1 40))) fun σ3 =>
  zlt (zsg σ3 1004 (zmax (σ3.1 1004) (zrem p1 40))) fun σ4 =>
  zlt (zsg σ4 1005 (zmin (σ4.1 1005) (p1 / 40))) fun σ5 =>
  zlt (zsg σ5 1006 (zmax (σ5.1 1006) (p1 / 40))) fun σ6 =>
  some (0, σ6))
  else
  some (0, σ))
set_option maxRecDepth 4000 in
theorem m_Ar_include_10 {l : Launch} {d : zD} {h : Nat → Nat} {out : Int32 × zS} {σ : zS} {ad av : Nat → Nat} {p1 : Int32} (E : zXe d ad av) (hf : f_Ar_include_10 p1 σ = some out) : zM l yX0_include cX0_include 2 none 1 21 d [.ref (h 10), .int p1] (XW d h σ) (XW d h out.2) none := by
  refine zM_of [some (.ref (h 10)), some (.int p1)] (by decide +kernel) rfl (Nat.le_of_ble_eq_true rfl) (fun F C T => ?_)
  unfold f_Ar_include_10 at hf
  refine zr_aload_n 0 1 C (by decide +kernel) rfl rfl ?_
  refine xg_10_1 (idx := 15) 4 C (by decide +kernel) rfl q_330 ?_
  refine zr_bipush (v := 20) 20 6 C (by decide +kernel) rfl rfl ?_
  refine zr_icmp_lt (off := 4) 10 9 C (by decide +kernel) (by decide) rfl hf (fun hf => ?_) (fun hf => ?_)
  · refine zr_aload_n 0 11 C (by decide +kernel) rfl rfl ?_
    refine xg_10_0 (idx := 9) 14 C (by decide +kernel) rfl q_329 ?_
    refine zr_aload_n 0 15 C (by decide +kernel) rfl rfl ?_
    refine xg_10_1 (idx := 15) 18 C (by decide +kernel) rfl q_330 ?_
    refine zr_iload_n 1 19 C (by decide +kernel) rfl rfl ?_
    refine xs_33 20 C (by decide +kernel) rfl hf (fun σ1 hf => ?_)
    refine zr_aload_n 0 21 C (by decide +kernel) rfl rfl ?_
    refine zr_dup 22 C (by decide +kernel) rfl rfl ?_
    refine xg_10_1 (idx := 15) 25 C (by decide +kernel) rfl q_330 ?_
    refine zr_iconst (v := 1) 1 26 C (by decide +kernel) rfl rfl ?_
    refine zr_iadd 27 C (by decide +kernel) rfl ?_
    refine xp_10_1 (idx := 15) 30 C (by decide +kernel) rfl q_330 hf (fun σ2 hf => ?_)
    refine zr_aload_n 0 31 C (by decide +kernel) rfl rfl ?_
    refine zr_aload_n 0 32 C (by decide +kernel) rfl rfl ?_
    refine xg_10_3 (idx := 29) 35 C (by decide +kernel) rfl q_332 ?_
    refine zr_iload_n 1 36 C (by decide +kernel) rfl rfl ?_
    refine zr_bipush (v := 40) 40 38 C (by decide +kernel) rfl rfl ?_
    refine zr_irem 39 C (by decide +kernel) rfl (by decide) ?_
    refine zr_mmin (idx := 41) 42 C (by decide +kernel) rfl q_744 (zb2 rfl rfl) (Nat.le_of_ble_eq_true rfl) ?_
    refine xp_10_3 (idx := 29) 45 C (by decide +kernel) rfl q_332 hf (fun σ3 hf => ?_)
    refine zr_aload_n 0 46 C (by decide +kernel) rfl rfl ?_
    refine zr_aload_n 0 47 C (by decide +kernel) rfl rfl ?_
    refine xg_10_4 (idx := 35) 50 C (by decide +kernel) rfl q_333 ?_
    refine zr_iload_n 1 51 C (by decide +kernel) rfl rfl ?_
    refine zr_bipush (v := 40) 40 53 C (by decide +kernel) rfl rfl ?_
    refine zr_irem 54 C (by decide +kernel) rfl (by decide) ?_
    refine zr_mmax (idx := 47) 57 C (by decide +kernel) rfl q_745 (zb2 rfl rfl) (Nat.le_of_ble_eq_true rfl) ?_
    refine xp_10_4 (idx := 35) 60 C (by decide +kernel) rfl q_333 hf (fun σ4 hf => ?_)
    refine zr_aload_n 0 61 C (by decide +kernel) rfl rfl ?_
    refine zr_aload_n 0 62 C (by decide +kernel) rfl rfl ?_
    refine xg_10_5 (idx := 32) 65 C (by decide +kernel) rfl q_334 ?_
    refine zr_iload_n 1 66 C (by decide +kernel) rfl rfl ?_
    refine zr_bipush (v := 40) 40 68 C (by decide +kernel) rfl rfl ?_
    refine zr_idiv 69 C (by decide +kernel) rfl (by decide) ?_
    refine zr_mmin (idx := 41) 72 C (by decide +kernel) rfl q_744 (zb2 rfl rfl) (Nat.le_of_ble_eq_true rfl) ?_
    refine xp_10_5 (idx := 32) 75 C (by decide +kernel) rfl q_334 hf (fun σ5 hf => ?_)
    refine zr_aload_n 0 76 C (by decide +kernel) rfl rfl ?_
    refine zr_aload_n 0 77 C (by decide +kernel) rfl rfl ?_
    refine xg_10_6 (idx := 38) 80 C (by decide +kernel) rfl q_335 ?_
    refine zr_iload_n 1 81 C (by decide +kernel) rfl rfl ?_
    refine zr_bipush (v := 40) 40 83 C (by decide +kernel) rfl rfl ?_
    refine zr_idiv 84 C (by decide +kernel) rfl (by decide) ?_
    refine zr_mmax (idx := 47) 87 C (by decide +kernel) rfl q_745 (zb2 rfl rfl) (Nat.le_of_ble_eq_true rfl) ?_
    refine xp_10_6 (idx := 38) 90 C (by decide +kernel) rfl q_335 hf (fun σ6 hf => ?_)
    obtain rfl := Option.some.inj hf
    exact zr_vret C (by decide +kernel) T
  · obtain rfl := Option.some.inj hf
    exact zr_vret C (by decide +kernel) T
theorem y_Ar_include_10 : zY yX0_include cX0_include 2 none 1 := ⟨q_743, q_83, by decide +kernel, by decide +kernel, by decide +kernel⟩
theorem k_Ar_include_10 {l : Launch} {d : zD} {F : zF} {h : Nat → Nat} {σ : zS} {lv : List (Option Value)} {pc : Nat} {own : String} {cc : ByteArray} {nL fr lo idx : Nat} {rest : List Value} {β : Type} {kf : Int32 → zS → Option β} {o2 : β} {ad av : Nat → Nat}  {p1 : Int32} (pc' : Nat) (C : zOk d F own cc nL fr lo) (E : zXe d ad av) (hd : decode cc pc = .ok (.invokevirtual idx, 3)) (hp : pc + 3 = pc') (hq : Cond.methodLink own idx yX0_include ∈ zW) (hm : 1 + 1 ≤ fr ∧ 8 + (2 + 11) + 21 ≤ lo) (hr : (rest.map fun v => v.category).sum ≤ 8) (hf : zbd (f_Ar_include_10 p1 σ) kf = some o2) (K : ∀ (r : Int32) (σ' : zS), kf r σ' = some o2 → V l d F 0 0 (XW d h σ') lv pc' (rest)) : V l d F 0 0 (XW d h σ) lv pc (.int p1 :: .ref (h 10) :: rest) := by
  obtain ⟨q, h1, h2⟩ := zbd_some hf
  exact zr_callV y_Ar_include_10 ⟨q_741, q_742⟩ 10 rfl rfl (As := [.int p1]) (m_Ar_include_10 E h1) rfl rfl pc' C hd hp hq hm hr (K _ _ h2)
/-! StepsBeyond$Area.fillUpTo(I)V -/
def f_Ar_fillUpTo_10_32  (y1 : Int32) (σ : zS) : Option (Int32 × zS) :=
  zbo y1 (zlt (zsg σ 1008 y1) fun σ1 =>
  some (0, σ1))
set_option maxRecDepth 4000 in
theorem w_Ar_fillUpTo_10_32 {l : Launch} {d : zD} {F : zF} {h : Nat → Nat} {out : Int32 × zS} {ad av : Nat → Nat}   (C : zOk d F RX0 cX0_fillUpTo 2 0 0) (T : zRt d F none none (XW d h out.2)) (E : zXe d ad av)  (y1 : Int32) (σ : zS) (hf : f_Ar_fillUpTo_10_32  y1 σ = some out) : V l d F 0 0 (XW d h σ) [none, none] 32 [.int y1, .ref (h 10)] := by
  unfold f_Ar_fillUpTo_10_32 at hf
  obtain ⟨hz, hf⟩ := zbo_some hf
  refine xp_10_8 (idx := 23) 35 C (by decide +kernel) rfl q_337 hz hf (fun σ1 hf => ?_)
  obtain rfl := Option.some.inj hf
  exact zr_vret C (by decide +kernel) T
def f_Ar_fillUpTo_10_31   (σ : zS) : Option (Int32 × zS) :=
  f_Ar_fillUpTo_10_32 0 σ
set_option maxRecDepth 4000 in
theorem w_Ar_fillUpTo_10_31 {l : Launch} {d : zD} {F : zF} {h : Nat → Nat} {out : Int32 × zS} {ad av : Nat → Nat}   (C : zOk d F RX0 cX0_fillUpTo 2 0 0) (T : zRt d F none none (XW d h out.2)) (E : zXe d ad av)   (σ : zS) (hf : f_Ar_fillUpTo_10_31   σ = some out) : V l d F 0 0 (XW d h σ) [none, none] 31 [.ref (h 10)] := by
  unfold f_Ar_fillUpTo_10_31 at hf
  refine zr_iconst (v := 0) 0 32 C (by decide +kernel) rfl rfl ?_
  exact w_Ar_fillUpTo_10_32 C T E _ _ hf
def f_Ar_fillUpTo_10 (p1 : Int32) (σ : zS) : Option (Int32 × zS) :=
  (if p1 < ((σ.1 1004) - (σ.1 1003)) then
  f_Ar_fillUpTo_10_31 σ
  else
  (if p1 < ((σ.1 1006) - (σ.1 1005)) then
  f_Ar_fillUpTo_10_31 σ
  else
  f_Ar_fillUpTo_10_32 1 σ))
set_option maxRecDepth 4000 in
theorem m_Ar_fillUpTo_10 {l : Launch} {d : zD} {h : Nat → Nat} {out : Int32 × zS} {σ : zS} {ad av : Nat → Nat} {p1 : Int32} (E : zXe d ad av) (hf : f_Ar_fillUpTo_10 p1 σ = some out) : zM l yX0_fillUpTo cX0_fillUpTo 2 none 0 0 d [.ref (h 10), .int p1] (XW d h σ) (XW d h out.2) none := by
  refine zM_of [some (.ref (h 10)), some (.int p1)] (by decide +kernel) rfl (Nat.le_of_ble_eq_true rfl) (fun F C T => ?_)
  unfold f_Ar_fillUpTo_10 at hf
  refine zr_aload_n 0 1 C (by decide +kernel) rfl rfl ?_
  refine zr_aload_n 0 2 C (by decide +kernel) rfl rfl ?_
  refine xg_10_4 (idx := 35) 5 C (by decide +kernel) rfl q_333 ?_
  refine zr_aload_n 0 6 C (by decide +kernel) rfl rfl ?_
  refine xg_10_3 (idx := 29) 9 C (by decide +kernel) rfl q_332 ?_
  refine zr_isub 10 C (by decide +kernel) rfl ?_
  refine zr_iload_n 1 11 C (by decide +kernel) rfl rfl ?_
  refine zr_icmp_gt (off := 20) 31 14 C (by decide +kernel) (by decide) rfl hf (fun hf => ?_) (fun hf => ?_)
  · refine zr_less (zN (zN zE)) ?_
    exact w_Ar_fillUpTo_10_31 C T E _ hf
  · refine zr_aload_n 0 15 C (by decide +kernel) rfl rfl ?_
    refine xg_10_6 (idx := 38) 18 C (by decide +kernel) rfl q_335 ?_
    refine zr_aload_n 0 19 C (by decide +kernel) rfl rfl ?_
    refine xg_10_5 (idx := 32) 22 C (by decide +kernel) rfl q_334 ?_
    refine zr_isub 23 C (by decide +kernel) rfl ?_
    refine zr_iload_n 1 24 C (by decide +kernel) rfl rfl ?_
    refine zr_icmp_gt (off := 7) 31 27 C (by decide +kernel) (by decide) rfl hf (fun hf => ?_) (fun hf => ?_)
    · refine zr_less (zN (zN zE)) ?_
      exact w_Ar_fillUpTo_10_31 C T E _ hf
    · refine zr_iconst (v := 1) 1 28 C (by decide +kernel) rfl rfl ?_
      refine zr_goto (off := 4) 32 C (by decide +kernel) (by decide) ?_
      refine zr_less (zN (zN zE)) ?_
      exact w_Ar_fillUpTo_10_32 C T E _ _ hf
theorem y_Ar_fillUpTo_10 : zY yX0_fillUpTo cX0_fillUpTo 2 none 1 := ⟨q_756, q_83, by decide +kernel, by decide +kernel, by decide +kernel⟩
theorem k_Ar_fillUpTo_10 {l : Launch} {d : zD} {F : zF} {h : Nat → Nat} {σ : zS} {lv : List (Option Value)} {pc : Nat} {own : String} {cc : ByteArray} {nL fr lo idx : Nat} {rest : List Value} {β : Type} {kf : Int32 → zS → Option β} {o2 : β} {ad av : Nat → Nat}  {p1 : Int32} (pc' : Nat) (C : zOk d F own cc nL fr lo) (E : zXe d ad av) (hd : decode cc pc = .ok (.invokevirtual idx, 3)) (hp : pc + 3 = pc') (hq : Cond.methodLink own idx yX0_fillUpTo ∈ zW) (hm : 0 + 1 ≤ fr ∧ 8 + (2 + 11) + 0 ≤ lo) (hr : (rest.map fun v => v.category).sum ≤ 8) (hf : zbd (f_Ar_fillUpTo_10 p1 σ) kf = some o2) (K : ∀ (r : Int32) (σ' : zS), kf r σ' = some o2 → V l d F 0 0 (XW d h σ') lv pc' (rest)) : V l d F 0 0 (XW d h σ) lv pc (.int p1 :: .ref (h 10) :: rest) := by
  obtain ⟨q, h1, h2⟩ := zbd_some hf
  exact zr_callV y_Ar_fillUpTo_10 ⟨q_754, q_755⟩ 10 rfl rfl (As := [.int p1]) (m_Ar_fillUpTo_10 E h1) rfl rfl pc' C hd hp hq hm hr (K _ _ h2)
/-! StepsBeyond$Area.measureLoaf(II)V -/
def f_Ar_measureLoaf_10 (p1 : Int32) (p2 : Int32) (σ : zS) : Option (Int32 × zS) :=
  zbd (f_Ar_clear_10 1 p2 σ) fun _ σ1 =>
  zbd (f_Ar_include_10 p1 σ1) fun _ σ2 =>
  some (0, σ2)
set_option maxRecDepth 4000 in
theorem m_Ar_measureLoaf_10 {l : Launch} {d : zD} {h : Nat → Nat} {out : Int32 × zS} {σ : zS} {ad av : Nat → Nat} {p1 : Int32} {p2 : Int32} (E : zXe d ad av) (hf : f_Ar_measureLoaf_10 p1 p2 σ = some out) : zM l yX0_measureLoaf cX0_measureLoaf 3 none 2 42 d [.ref (h 10), .int p1, .int p2] (XW d h σ) (XW d h out.2) none := by
  refine zM_of [some (.ref (h 10)), some (.int p1), some (.int p2)] (by decide +kernel) rfl (Nat.le_of_ble_eq_true rfl) (fun F C T => ?_)
  unfold f_Ar_measureLoaf_10 at hf
  refine zr_aload_n 0 1 C (by decide +kernel) rfl rfl ?_
  refine zr_iconst (v := 1) 1 2 C (by decide +kernel) rfl rfl ?_
  refine zr_iload_n 2 3 C (by decide +kernel) rfl rfl ?_
  refine k_Ar_clear_10 (idx := 50) 6 C E (by decide +kernel) rfl q_736 (zb2 rfl rfl) (Nat.le_of_ble_eq_true rfl) hf (fun _ σ1 hf => ?_)
  refine zr_aload_n 0 7 C (by decide +kernel) rfl rfl ?_
  refine zr_iload_n 1 8 C (by decide +kernel) rfl rfl ?_
  refine k_Ar_include_10 (idx := 54) 11 C E (by decide +kernel) rfl q_740 (zb2 rfl rfl) (Nat.le_of_ble_eq_true rfl) hf (fun _ σ2 hf => ?_)
  obtain rfl := Option.some.inj hf
  exact zr_vret C (by decide +kernel) T
theorem y_Ar_measureLoaf_10 : zY yX0_measureLoaf cX0_measureLoaf 3 none 2 := ⟨q_735, q_83, by decide +kernel, by decide +kernel, by decide +kernel⟩
theorem k_Ar_measureLoaf_10 {l : Launch} {d : zD} {F : zF} {h : Nat → Nat} {σ : zS} {lv : List (Option Value)} {pc : Nat} {own : String} {cc : ByteArray} {nL fr lo idx : Nat} {rest : List Value} {β : Type} {kf : Int32 → zS → Option β} {o2 : β} {ad av : Nat → Nat}  {p1 : Int32} {p2 : Int32} (pc' : Nat) (C : zOk d F own cc nL fr lo) (E : zXe d ad av) (hd : decode cc pc = .ok (.invokevirtual idx, 3)) (hp : pc + 3 = pc') (hq : Cond.methodLink own idx yX0_measureLoaf ∈ zW) (hm : 2 + 1 ≤ fr ∧ 8 + (3 + 11) + 42 ≤ lo) (hr : (rest.map fun v => v.category).sum ≤ 8) (hf : zbd (f_Ar_measureLoaf_10 p1 p2 σ) kf = some o2) (K : ∀ (r : Int32) (σ' : zS), kf r σ' = some o2 → V l d F 0 0 (XW d h σ') lv pc' (rest)) : V l d F 0 0 (XW d h σ) lv pc (.int p2 :: .int p1 :: .ref (h 10) :: rest) := by
  obtain ⟨q, h1, h2⟩ := zbd_some hf
  exact zr_callV y_Ar_measureLoaf_10 ⟨q_733, q_734⟩ 10 rfl rfl (As := [.int p1, .int p2]) (m_Ar_measureLoaf_10 E h1) rfl rfl pc' C hd hp hq hm hr (K _ _ h2)
/-! StepsBeyond$Area.isInBox(II)Z -/
def f_Ar_isInBox_10 (p1 : Int32) (p2 : Int32) (σ : zS) : Option (Int32 × zS) :=
  zbd (f_X_isFrom (zrem p1 40) ((σ.1 1003) - p2) ((σ.1 1004) + p2) σ) fun r2 σ1 =>
  (if r2 = 0 then
  some (0, σ1)
  else
  zbd (f_X_isFrom (p1 / 40) ((σ1.1 1005) - p2) ((σ1.1 1006) + p2) σ1) fun r4 σ3 =>
  (if r4 = 0 then
  some (0, σ3)
  else
  some (1, σ3)))
set_option maxRecDepth 4000 in
theorem m_Ar_isInBox_10 {l : Launch} {d : zD} {h : Nat → Nat} {out : Int32 × zS} {σ : zS} {ad av : Nat → Nat} {p1 : Int32} {p2 : Int32} (E : zXe d ad av) (hf : f_Ar_isInBox_10 p1 p2 σ = some out) : zM l yX0_isInBox cX0_isInBox 3 (some .boolean) 1 22 d [.ref (h 10), .int p1, .int p2] (XW d h σ) (XW d h out.2) (some (.int out.1)) := by
  refine zM_of [some (.ref (h 10)), some (.int p1), some (.int p2)] (by decide +kernel) rfl (Nat.le_of_ble_eq_true rfl) (fun F C T => ?_)
  unfold f_Ar_isInBox_10 at hf
  refine zr_iload_n 1 1 C (by decide +kernel) rfl rfl ?_
  refine zr_bipush (v := 40) 40 3 C (by decide +kernel) rfl rfl ?_
  refine zr_irem 4 C (by decide +kernel) rfl (by decide) ?_
  refine zr_aload_n 0 5 C (by decide +kernel) rfl rfl ?_
  refine xg_10_3 (idx := 29) 8 C (by decide +kernel) rfl q_332 ?_
  refine zr_iload_n 2 9 C (by decide +kernel) rfl rfl ?_
  refine zr_isub 10 C (by decide +kernel) rfl ?_
  refine zr_aload_n 0 11 C (by decide +kernel) rfl rfl ?_
  refine xg_10_4 (idx := 35) 14 C (by decide +kernel) rfl q_333 ?_
  refine zr_iload_n 2 15 C (by decide +kernel) rfl rfl ?_
  refine zr_iadd 16 C (by decide +kernel) rfl ?_
  refine kN_X_isFrom (idx := 66) 19 C E (by decide +kernel) rfl (zn_9 E) (zb2 rfl rfl) (Nat.le_of_ble_eq_true rfl) hf (fun r2 σ1 hf => ?_)
  refine zr_if_eq (off := 29) 48 22 C (by decide +kernel) (by decide) rfl hf (fun hf => ?_) (fun hf => ?_)
  · refine zr_iconst (v := 0) 0 49 C (by decide +kernel) rfl rfl ?_
    obtain rfl := Option.some.inj hf
    exact zr_zret C (by decide +kernel) rfl T
  · refine zr_iload_n 1 23 C (by decide +kernel) rfl rfl ?_
    refine zr_bipush (v := 40) 40 25 C (by decide +kernel) rfl rfl ?_
    refine zr_idiv 26 C (by decide +kernel) rfl (by decide) ?_
    refine zr_aload_n 0 27 C (by decide +kernel) rfl rfl ?_
    refine xg_10_5 (idx := 32) 30 C (by decide +kernel) rfl q_334 ?_
    refine zr_iload_n 2 31 C (by decide +kernel) rfl rfl ?_
    refine zr_isub 32 C (by decide +kernel) rfl ?_
    refine zr_aload_n 0 33 C (by decide +kernel) rfl rfl ?_
    refine xg_10_6 (idx := 38) 36 C (by decide +kernel) rfl q_335 ?_
    refine zr_iload_n 2 37 C (by decide +kernel) rfl rfl ?_
    refine zr_iadd 38 C (by decide +kernel) rfl ?_
    refine kN_X_isFrom (idx := 66) 41 C E (by decide +kernel) rfl (zn_9 E) (zb2 rfl rfl) (Nat.le_of_ble_eq_true rfl) hf (fun r4 σ3 hf => ?_)
    refine zr_if_eq (off := 7) 48 44 C (by decide +kernel) (by decide) rfl hf (fun hf => ?_) (fun hf => ?_)
    · refine zr_iconst (v := 0) 0 49 C (by decide +kernel) rfl rfl ?_
      obtain rfl := Option.some.inj hf
      exact zr_zret C (by decide +kernel) rfl T
    · refine zr_iconst (v := 1) 1 45 C (by decide +kernel) rfl rfl ?_
      refine zr_goto (off := 4) 49 C (by decide +kernel) (by decide) ?_
      obtain rfl := Option.some.inj hf
      exact zr_zret C (by decide +kernel) rfl T
theorem y_Ar_isInBox_10 : zY yX0_isInBox cX0_isInBox 3 (some .boolean) 2 := ⟨q_764, q_83, by decide +kernel, by decide +kernel, by decide +kernel⟩
theorem k_Ar_isInBox_10 {l : Launch} {d : zD} {F : zF} {h : Nat → Nat} {σ : zS} {lv : List (Option Value)} {pc : Nat} {own : String} {cc : ByteArray} {nL fr lo idx : Nat} {rest : List Value} {β : Type} {kf : Int32 → zS → Option β} {o2 : β} {ad av : Nat → Nat}  {p1 : Int32} {p2 : Int32} (pc' : Nat) (C : zOk d F own cc nL fr lo) (E : zXe d ad av) (hd : decode cc pc = .ok (.invokevirtual idx, 3)) (hp : pc + 3 = pc') (hq : Cond.methodLink own idx yX0_isInBox ∈ zW) (hm : 1 + 1 ≤ fr ∧ 8 + (3 + 11) + 22 ≤ lo) (hr : (rest.map fun v => v.category).sum ≤ 8) (hf : zbd (f_Ar_isInBox_10 p1 p2 σ) kf = some o2) (K : ∀ (r : Int32) (σ' : zS), kf r σ' = some o2 → V l d F 0 0 (XW d h σ') lv pc' (.int r :: rest)) : V l d F 0 0 (XW d h σ) lv pc (.int p2 :: .int p1 :: .ref (h 10) :: rest) := by
  obtain ⟨q, h1, h2⟩ := zbd_some hf
  exact zr_callV y_Ar_isInBox_10 ⟨q_763, q_22⟩ 10 rfl rfl (As := [.int p1, .int p2]) (m_Ar_isInBox_10 E h1) rfl rfl pc' C hd hp hq hm hr (K _ _ h2)
/-! StepsBeyond$Area.isByOne(I)Z -/
def f_Ar_isByOne_10_2b (k2 : Int32 → Int32 → zS → Option (Int32 × zS)) (x1 : Int32) (x2 : Int32) (σ : zS) : Option (Int32 × zS) :=
  (if (σ.1 1001) ≤ x2 then
  some (0, σ)
  else
  zin x2 20 (zbd (f_X_apart x1 (σ.2 33 x2.toNatClampNeg) σ) fun r2 σ1 =>
  (if (σ1.1 1002) < r2 then
  k2 x1 (x2 + 1) σ1
  else
  some (1, σ1))))
set_option maxRecDepth 4000 in
theorem w_Ar_isByOne_10_2b {l : Launch} {d : zD} {F : zF} {h : Nat → Nat} {out : Int32 × zS} {ad av : Nat → Nat}  {k2 : Int32 → Int32 → zS → Option (Int32 × zS)} (C : zOk d F RX0 cX0_isByOne 3 2 42) (T : zRt d F (some .boolean) (some (.int out.1)) (XW d h out.2)) (E : zXe d ad av) (H2 : ∀ (x1 : Int32) (x2 : Int32) (σ : zS), k2 x1 x2 σ = some out → V l d F 0 0 (XW d h σ) [some (.ref (h 10)), some (.int x1), some (.int x2)] 2 []) (x1 : Int32) (x2 : Int32) (σ : zS) (hf : f_Ar_isByOne_10_2b k2 x1 x2 σ = some out) : V l d F 0 0 (XW d h σ) [some (.ref (h 10)), some (.int x1), some (.int x2)] 2 [] := by
  unfold f_Ar_isByOne_10_2b at hf
  refine zr_iload_n 2 3 C (by decide +kernel) rfl rfl ?_
  refine zr_aload_n 0 4 C (by decide +kernel) rfl rfl ?_
  refine xg_10_1 (idx := 15) 7 C (by decide +kernel) rfl q_330 ?_
  refine zr_icmp_ge (off := 28) 35 10 C (by decide +kernel) (by decide) rfl hf (fun hf => ?_) (fun hf => ?_)
  · refine zr_iconst (v := 0) 0 36 C (by decide +kernel) rfl rfl ?_
    obtain rfl := Option.some.inj hf
    exact zr_zret C (by decide +kernel) rfl T
  · refine zr_iload_n 1 11 C (by decide +kernel) rfl rfl ?_
    refine zr_aload_n 0 12 C (by decide +kernel) rfl rfl ?_
    refine xg_10_0 (idx := 9) 15 C (by decide +kernel) rfl q_329 ?_
    refine zr_iload_n 2 16 C (by decide +kernel) rfl rfl ?_
    refine xl_33 17 C (by decide +kernel) rfl hf (fun hf => ?_)
    refine kN_X_apart (idx := 70) 20 C E (by decide +kernel) rfl (zn_10 E) (zb2 rfl rfl) (Nat.le_of_ble_eq_true rfl) hf (fun r2 σ1 hf => ?_)
    refine zr_aload_n 0 21 C (by decide +kernel) rfl rfl ?_
    refine xg_10_2 (idx := 26) 24 C (by decide +kernel) rfl q_331 ?_
    refine zr_icmp_gt (off := 5) 29 27 C (by decide +kernel) (by decide) rfl hf (fun hf => ?_) (fun hf => ?_)
    · refine zr_iinc (j := 1) 2 [some (.ref (h 10)), some (.int x1), some (.int (x2 + 1))] 32 C (by decide +kernel) rfl rfl rfl (by decide) rfl rfl ?_
      refine zr_goto (off := -30) 2 C (by decide +kernel) (by decide) ?_
      exact H2 _ _ _ hf
    · refine zr_iconst (v := 1) 1 28 C (by decide +kernel) rfl rfl ?_
      obtain rfl := Option.some.inj hf
      exact zr_zret C (by decide +kernel) rfl T
def f_Ar_isByOne_10_2  : Nat → Int32 → Int32 → zS → Option (Int32 × zS)
  | 0, _, _, _ => none
  | n + 1, x1, x2,  σ => f_Ar_isByOne_10_2b (fun x1 x2 σ => f_Ar_isByOne_10_2  n x1 x2 σ) x1 x2 σ
theorem w_Ar_isByOne_10_2 {l : Launch} {d : zD} {F : zF} {h : Nat → Nat} {out : Int32 × zS} {ad av : Nat → Nat}   (C : zOk d F RX0 cX0_isByOne 3 2 42) (T : zRt d F (some .boolean) (some (.int out.1)) (XW d h out.2)) (E : zXe d ad av)  : ∀ (n : Nat) (x1 : Int32) (x2 : Int32) (σ : zS), f_Ar_isByOne_10_2  n x1 x2 σ = some out → V l d F 0 0 (XW d h σ) [some (.ref (h 10)), some (.int x1), some (.int x2)] 2 [] := by
  intro n
  induction n with
  | zero =>
    intro x1 x2 σ hf
    cases hf
  | succ n ih =>
    intro x1 x2 σ hf
    exact w_Ar_isByOne_10_2b C T E ih x1 x2 σ hf
def f_Ar_isByOne_10 (p1 : Int32) (σ : zS) : Option (Int32 × zS) :=
  f_Ar_isByOne_10_2 zfu p1 0 σ
set_option maxRecDepth 4000 in
theorem m_Ar_isByOne_10 {l : Launch} {d : zD} {h : Nat → Nat} {out : Int32 × zS} {σ : zS} {ad av : Nat → Nat} {p1 : Int32} (E : zXe d ad av) (hf : f_Ar_isByOne_10 p1 σ = some out) : zM l yX0_isByOne cX0_isByOne 3 (some .boolean) 2 42 d [.ref (h 10), .int p1] (XW d h σ) (XW d h out.2) (some (.int out.1)) := by
  refine zM_of [some (.ref (h 10)), some (.int p1), none] (by decide +kernel) rfl (Nat.le_of_ble_eq_true rfl) (fun F C T => ?_)
  unfold f_Ar_isByOne_10 at hf
  refine zr_iconst (v := 0) 0 1 C (by decide +kernel) rfl rfl ?_
  refine zr_istore_n 2 [some (.ref (h 10)), some (.int p1), some (.int 0)] 2 C (by decide +kernel) rfl (by decide) rfl rfl ?_
  exact w_Ar_isByOne_10_2 C T E zfu _ _ _ hf
theorem y_Ar_isByOne_10 : zY yX0_isByOne cX0_isByOne 3 (some .boolean) 1 := ⟨q_769, q_83, by decide +kernel, by decide +kernel, by decide +kernel⟩
theorem k_Ar_isByOne_10 {l : Launch} {d : zD} {F : zF} {h : Nat → Nat} {σ : zS} {lv : List (Option Value)} {pc : Nat} {own : String} {cc : ByteArray} {nL fr lo idx : Nat} {rest : List Value} {β : Type} {kf : Int32 → zS → Option β} {o2 : β} {ad av : Nat → Nat}  {p1 : Int32} (pc' : Nat) (C : zOk d F own cc nL fr lo) (E : zXe d ad av) (hd : decode cc pc = .ok (.invokevirtual idx, 3)) (hp : pc + 3 = pc') (hq : Cond.methodLink own idx yX0_isByOne ∈ zW) (hm : 2 + 1 ≤ fr ∧ 8 + (3 + 11) + 42 ≤ lo) (hr : (rest.map fun v => v.category).sum ≤ 8) (hf : zbd (f_Ar_isByOne_10 p1 σ) kf = some o2) (K : ∀ (r : Int32) (σ' : zS), kf r σ' = some o2 → V l d F 0 0 (XW d h σ') lv pc' (.int r :: rest)) : V l d F 0 0 (XW d h σ) lv pc (.int p1 :: .ref (h 10) :: rest) := by
  obtain ⟨q, h1, h2⟩ := zbd_some hf
  exact zr_callV y_Ar_isByOne_10 ⟨q_768, q_23⟩ 10 rfl rfl (As := [.int p1]) (m_Ar_isByOne_10 E h1) rfl rfl pc' C hd hp hq hm hr (K _ _ h2)
/-! StepsBeyond$Area.holds(I)Z -/
def f_Ar_holds_10_41   (σ : zS) : Option (Int32 × zS) :=
  some (1, σ)
set_option maxRecDepth 4000 in
theorem w_Ar_holds_10_41 {l : Launch} {d : zD} {F : zF} {h : Nat → Nat} {out : Int32 × zS} {ad av : Nat → Nat}   (C : zOk d F RX0 cX0_holds 2 3 64) (T : zRt d F (some .boolean) (some (.int out.1)) (XW d h out.2)) (E : zXe d ad av)   (σ : zS) (hf : f_Ar_holds_10_41   σ = some out) : V l d F 0 0 (XW d h σ) [none, none] 41 [] := by
  unfold f_Ar_holds_10_41 at hf
  refine zr_iconst (v := 1) 1 42 C (by decide +kernel) rfl rfl ?_
  refine zr_goto (off := 4) 46 C (by decide +kernel) (by decide) ?_
  obtain rfl := Option.some.inj hf
  exact zr_zret C (by decide +kernel) rfl T
def f_Ar_holds_10_33  (x1 : Int32) (σ : zS) : Option (Int32 × zS) :=
  zbd (f_Ar_isByOne_10 x1 σ) fun r2 σ1 =>
  (if r2 = 0 then
  some (0, σ1)
  else
  f_Ar_holds_10_41 σ1)
set_option maxRecDepth 4000 in
theorem w_Ar_holds_10_33 {l : Launch} {d : zD} {F : zF} {h : Nat → Nat} {out : Int32 × zS} {ad av : Nat → Nat}   (C : zOk d F RX0 cX0_holds 2 3 64) (T : zRt d F (some .boolean) (some (.int out.1)) (XW d h out.2)) (E : zXe d ad av)  (x1 : Int32) (σ : zS) (hf : f_Ar_holds_10_33  x1 σ = some out) : V l d F 0 0 (XW d h σ) [some (.ref (h 10)), some (.int x1)] 33 [] := by
  unfold f_Ar_holds_10_33 at hf
  refine zr_aload_n 0 34 C (by decide +kernel) rfl rfl ?_
  refine zr_iload_n 1 35 C (by decide +kernel) rfl rfl ?_
  refine k_Ar_isByOne_10 (idx := 62) 38 C E (by decide +kernel) rfl q_766 (zb2 rfl rfl) (Nat.le_of_ble_eq_true rfl) hf (fun r2 σ1 hf => ?_)
  refine zr_if_eq (off := 7) 45 41 C (by decide +kernel) (by decide) rfl hf (fun hf => ?_) (fun hf => ?_)
  · refine zr_iconst (v := 0) 0 46 C (by decide +kernel) rfl rfl ?_
    obtain rfl := Option.some.inj hf
    exact zr_zret C (by decide +kernel) rfl T
  · refine zr_less (zN (zN zE)) ?_
    exact w_Ar_holds_10_41 C T E _ hf
def f_Ar_holds_10 (p1 : Int32) (σ : zS) : Option (Int32 × zS) :=
  (if (σ.1 1007) = 0 then
  (if (σ.1 1008) = 0 then
  f_Ar_holds_10_33 p1 σ
  else
  zbd (f_Ar_isInBox_10 p1 0 σ) fun r2 σ1 =>
  (if r2 = 0 then
  f_Ar_holds_10_33 p1 σ1
  else
  f_Ar_holds_10_41 σ1))
  else
  zbd (f_Ar_isInBox_10 p1 (σ.1 1002) σ) fun r4 σ3 =>
  zbo r4 (some (r4, σ3)))
set_option maxRecDepth 4000 in
theorem m_Ar_holds_10 {l : Launch} {d : zD} {h : Nat → Nat} {out : Int32 × zS} {σ : zS} {ad av : Nat → Nat} {p1 : Int32} (E : zXe d ad av) (hf : f_Ar_holds_10 p1 σ = some out) : zM l yX0_holds cX0_holds 2 (some .boolean) 3 64 d [.ref (h 10), .int p1] (XW d h σ) (XW d h out.2) (some (.int out.1)) := by
  refine zM_of [some (.ref (h 10)), some (.int p1)] (by decide +kernel) rfl (Nat.le_of_ble_eq_true rfl) (fun F C T => ?_)
  unfold f_Ar_holds_10 at hf
  refine zr_aload_n 0 1 C (by decide +kernel) rfl rfl ?_
  refine xg_10_7 (idx := 19) 4 C (by decide +kernel) rfl q_336 ?_
  refine zr_if_eq (off := 13) 17 7 C (by decide +kernel) (by decide) rfl hf (fun hf => ?_) (fun hf => ?_)
  · refine zr_aload_n 0 18 C (by decide +kernel) rfl rfl ?_
    refine xg_10_8 (idx := 23) 21 C (by decide +kernel) rfl q_337 ?_
    refine zr_if_eq (off := 12) 33 24 C (by decide +kernel) (by decide) rfl hf (fun hf => ?_) (fun hf => ?_)
    · exact w_Ar_holds_10_33 C T E _ _ hf
    · refine zr_aload_n 0 25 C (by decide +kernel) rfl rfl ?_
      refine zr_iload_n 1 26 C (by decide +kernel) rfl rfl ?_
      refine zr_iconst (v := 0) 0 27 C (by decide +kernel) rfl rfl ?_
      refine k_Ar_isInBox_10 (idx := 58) 30 C E (by decide +kernel) rfl q_761 (zb2 rfl rfl) (Nat.le_of_ble_eq_true rfl) hf (fun r2 σ1 hf => ?_)
      refine zr_if_ne (off := 11) 41 33 C (by decide +kernel) (by decide) rfl hf (fun hf => ?_) (fun hf => ?_)
      · refine zr_less (zN (zN zE)) ?_
        exact w_Ar_holds_10_41 C T E _ hf
      · exact w_Ar_holds_10_33 C T E _ _ hf
  · refine zr_aload_n 0 8 C (by decide +kernel) rfl rfl ?_
    refine zr_iload_n 1 9 C (by decide +kernel) rfl rfl ?_
    refine zr_aload_n 0 10 C (by decide +kernel) rfl rfl ?_
    refine xg_10_2 (idx := 26) 13 C (by decide +kernel) rfl q_331 ?_
    refine k_Ar_isInBox_10 (idx := 58) 16 C E (by decide +kernel) rfl q_761 (zb2 rfl rfl) (Nat.le_of_ble_eq_true rfl) hf (fun r4 σ3 hf => ?_)
    obtain ⟨hz, hf⟩ := zbo_some hf
    obtain rfl := Option.some.inj hf
    exact zr_zret C (by decide +kernel) hz T
theorem y_Ar_holds_10 : zY yX0_holds cX0_holds 2 (some .boolean) 1 := ⟨q_760, q_83, by decide +kernel, by decide +kernel, by decide +kernel⟩
theorem k_Ar_holds_10 {l : Launch} {d : zD} {F : zF} {h : Nat → Nat} {σ : zS} {lv : List (Option Value)} {pc : Nat} {own : String} {cc : ByteArray} {nL fr lo idx : Nat} {rest : List Value} {β : Type} {kf : Int32 → zS → Option β} {o2 : β} {ad av : Nat → Nat}  {p1 : Int32} (pc' : Nat) (C : zOk d F own cc nL fr lo) (E : zXe d ad av) (hd : decode cc pc = .ok (.invokevirtual idx, 3)) (hp : pc + 3 = pc') (hq : Cond.methodLink own idx yX0_holds ∈ zW) (hm : 3 + 1 ≤ fr ∧ 8 + (2 + 11) + 64 ≤ lo) (hr : (rest.map fun v => v.category).sum ≤ 8) (hf : zbd (f_Ar_holds_10 p1 σ) kf = some o2) (K : ∀ (r : Int32) (σ' : zS), kf r σ' = some o2 → V l d F 0 0 (XW d h σ') lv pc' (.int r :: rest)) : V l d F 0 0 (XW d h σ) lv pc (.int p1 :: .ref (h 10) :: rest) := by
  obtain ⟨q, h1, h2⟩ := zbd_some hf
  exact zr_callV y_Ar_holds_10 ⟨q_758, q_759⟩ 10 rfl rfl (As := [.int p1]) (m_Ar_holds_10 E h1) rfl rfl pc' C hd hp hq hm hr (K _ _ h2)
/-! StepsBeyond$Land.split(IIIII)V -/
def f_La_split_51 (k3 : Int32 → Int32 → Int32 → Int32 → Int32 → zS → Option (Int32 × zS)) (x1 : Int32) (x2 : Int32) (x4 : Int32) (x5 : Int32) (x6 : Int32) (σ : zS) : Option (Int32 × zS) :=
  k3 x1 x2 x4 x5 (x6 + 1) σ
set_option maxRecDepth 4000 in
theorem w_La_split_51 {l : Launch} {d : zD} {F : zF} {h : Nat → Nat} {out : Int32 × zS} {ad av : Nat → Nat}  {k3 : Int32 → Int32 → Int32 → Int32 → Int32 → zS → Option (Int32 × zS)} (C : zOk d F RX2 cX2_split 7 0 0) (T : zRt d F none none (XW d h out.2)) (E : zXe d ad av) (H3 : ∀ (x1 : Int32) (x2 : Int32) (x4 : Int32) (x5 : Int32) (x6 : Int32) (σ : zS), k3 x1 x2 x4 x5 x6 σ = some out → V l d F 0 0 (XW d h σ) [some (.ref (h 4)), some (.int x1), some (.int x2), none, some (.int x4), some (.int x5), some (.int x6)] 3 []) (x1 : Int32) (x2 : Int32) (x4 : Int32) (x5 : Int32) (x6 : Int32) (σ : zS) (hf : f_La_split_51 k3 x1 x2 x4 x5 x6 σ = some out) : V l d F 0 0 (XW d h σ) [some (.ref (h 4)), some (.int x1), some (.int x2), none, some (.int x4), some (.int x5), some (.int x6)] 51 [] := by
  unfold f_La_split_51 at hf
  refine zr_iinc (j := 1) 6 [some (.ref (h 4)), some (.int x1), some (.int x2), none, some (.int x4), some (.int x5), some (.int (x6 + 1))] 54 C (by decide +kernel) rfl rfl rfl (by decide) rfl rfl ?_
  refine zr_goto (off := -51) 3 C (by decide +kernel) (by decide) ?_
  exact H3 _ _ _ _ _ _ hf
def f_La_split_3b (k3 : Int32 → Int32 → Int32 → Int32 → Int32 → zS → Option (Int32 × zS)) (x1 : Int32) (x2 : Int32) (x4 : Int32) (x5 : Int32) (x6 : Int32) (σ : zS) : Option (Int32 × zS) :=
  (if x4 < x6 then
  some (0, σ)
  else
  (if x1 = 0 then
  zin ((x6 * 40) + x2) 1600 (zin ((x6 * 40) + x2) 1600 (zlt (zsa σ 21 ((x6 * 40) + x2) ((σ.2 21 ((x6 * 40) + x2).toNatClampNeg) + x5)) fun σ2 =>
  f_La_split_51 k3 x1 x2 x4 x5 x6 σ2))
  else
  zin ((x2 * 40) + x6) 1600 (zin ((x2 * 40) + x6) 1600 (zlt (zsa σ 22 ((x2 * 40) + x6) ((σ.2 22 ((x2 * 40) + x6).toNatClampNeg) + x5)) fun σ1 =>
  f_La_split_51 k3 x1 x2 x4 x5 x6 σ1))))
set_option maxRecDepth 4000 in
theorem w_La_split_3b {l : Launch} {d : zD} {F : zF} {h : Nat → Nat} {out : Int32 × zS} {ad av : Nat → Nat}  {k3 : Int32 → Int32 → Int32 → Int32 → Int32 → zS → Option (Int32 × zS)} (C : zOk d F RX2 cX2_split 7 0 0) (T : zRt d F none none (XW d h out.2)) (E : zXe d ad av) (H3 : ∀ (x1 : Int32) (x2 : Int32) (x4 : Int32) (x5 : Int32) (x6 : Int32) (σ : zS), k3 x1 x2 x4 x5 x6 σ = some out → V l d F 0 0 (XW d h σ) [some (.ref (h 4)), some (.int x1), some (.int x2), none, some (.int x4), some (.int x5), some (.int x6)] 3 []) (x1 : Int32) (x2 : Int32) (x4 : Int32) (x5 : Int32) (x6 : Int32) (σ : zS) (hf : f_La_split_3b k3 x1 x2 x4 x5 x6 σ = some out) : V l d F 0 0 (XW d h σ) [some (.ref (h 4)), some (.int x1), some (.int x2), none, some (.int x4), some (.int x5), some (.int x6)] 3 [] := by
  unfold f_La_split_3b at hf
  refine zr_iload 6 5 C (by decide +kernel) rfl rfl ?_
  refine zr_iload 4 7 C (by decide +kernel) rfl rfl ?_
  refine zr_icmp_gt (off := 50) 57 10 C (by decide +kernel) (by decide) rfl hf (fun hf => ?_) (fun hf => ?_)
  · obtain rfl := Option.some.inj hf
    exact zr_vret C (by decide +kernel) T
  · refine zr_iload_n 1 11 C (by decide +kernel) rfl rfl ?_
    refine zr_if_ne (off := 23) 34 14 C (by decide +kernel) (by decide) rfl hf (fun hf => ?_) (fun hf => ?_)
    · refine zr_aload_n 0 35 C (by decide +kernel) rfl rfl ?_
      refine xg_4_1 (idx := 15) 38 C (by decide +kernel) rfl q_225 ?_
      refine zr_iload_n 2 39 C (by decide +kernel) rfl rfl ?_
      refine zr_bipush (v := 40) 40 41 C (by decide +kernel) rfl rfl ?_
      refine zr_imul 42 C (by decide +kernel) rfl ?_
      refine zr_iload 6 44 C (by decide +kernel) rfl rfl ?_
      refine zr_iadd 45 C (by decide +kernel) rfl ?_
      refine zr_dup2 46 C (by decide +kernel) rfl rfl rfl ?_
      refine xl_22 47 C (by decide +kernel) rfl hf (fun hf => ?_)
      refine zr_iload 5 49 C (by decide +kernel) rfl rfl ?_
      refine zr_iadd 50 C (by decide +kernel) rfl ?_
      refine xs_22 51 C (by decide +kernel) rfl hf (fun σ1 hf => ?_)
      exact w_La_split_51 C T E H3 _ _ _ _ _ _ hf
    · refine zr_aload_n 0 15 C (by decide +kernel) rfl rfl ?_
      refine xg_4_0 (idx := 9) 18 C (by decide +kernel) rfl q_224 ?_
      refine zr_iload 6 20 C (by decide +kernel) rfl rfl ?_
      refine zr_bipush (v := 40) 40 22 C (by decide +kernel) rfl rfl ?_
      refine zr_imul 23 C (by decide +kernel) rfl ?_
      refine zr_iload_n 2 24 C (by decide +kernel) rfl rfl ?_
      refine zr_iadd 25 C (by decide +kernel) rfl ?_
      refine zr_dup2 26 C (by decide +kernel) rfl rfl rfl ?_
      refine xl_21 27 C (by decide +kernel) rfl hf (fun hf => ?_)
      refine zr_iload 5 29 C (by decide +kernel) rfl rfl ?_
      refine zr_iadd 30 C (by decide +kernel) rfl ?_
      refine xs_21 31 C (by decide +kernel) rfl hf (fun σ2 hf => ?_)
      refine zr_goto (off := 20) 51 C (by decide +kernel) (by decide) ?_
      exact w_La_split_51 C T E H3 _ _ _ _ _ _ hf
def f_La_split_3  : Nat → Int32 → Int32 → Int32 → Int32 → Int32 → zS → Option (Int32 × zS)
  | 0, _, _, _, _, _, _ => none
  | n + 1, x1, x2, x4, x5, x6,  σ => f_La_split_3b (fun x1 x2 x4 x5 x6 σ => f_La_split_3  n x1 x2 x4 x5 x6 σ) x1 x2 x4 x5 x6 σ
theorem w_La_split_3 {l : Launch} {d : zD} {F : zF} {h : Nat → Nat} {out : Int32 × zS} {ad av : Nat → Nat}   (C : zOk d F RX2 cX2_split 7 0 0) (T : zRt d F none none (XW d h out.2)) (E : zXe d ad av)  : ∀ (n : Nat) (x1 : Int32) (x2 : Int32) (x4 : Int32) (x5 : Int32) (x6 : Int32) (σ : zS), f_La_split_3  n x1 x2 x4 x5 x6 σ = some out → V l d F 0 0 (XW d h σ) [some (.ref (h 4)), some (.int x1), some (.int x2), none, some (.int x4), some (.int x5), some (.int x6)] 3 [] := by
  intro n
  induction n with
  | zero =>
    intro x1 x2 x4 x5 x6 σ hf
    cases hf
  | succ n ih =>
    intro x1 x2 x4 x5 x6 σ hf
    exact w_La_split_3b C T E ih x1 x2 x4 x5 x6 σ hf
def f_La_split (p1 : Int32) (p2 : Int32) (p3 : Int32) (p4 : Int32) (p5 : Int32) (σ : zS) : Option (Int32 × zS) :=
  f_La_split_3 zfu p1 p2 p4 p5 p3 σ
set_option maxRecDepth 4000 in
theorem m_La_split {l : Launch} {d : zD} {h : Nat → Nat} {out : Int32 × zS} {σ : zS} {ad av : Nat → Nat} {p1 : Int32} {p2 : Int32} {p3 : Int32} {p4 : Int32} {p5 : Int32} (E : zXe d ad av) (hf : f_La_split p1 p2 p3 p4 p5 σ = some out) : zM l yX2_split cX2_split 7 none 0 0 d [.ref (h 4), .int p1, .int p2, .int p3, .int p4, .int p5] (XW d h σ) (XW d h out.2) none := by
  refine zM_of [some (.ref (h 4)), some (.int p1), some (.int p2), some (.int p3), some (.int p4), some (.int p5), none] (by decide +kernel) rfl (Nat.le_of_ble_eq_true rfl) (fun F C T => ?_)
  unfold f_La_split at hf
  refine zr_iload_n 3 1 C (by decide +kernel) rfl rfl ?_
  refine zr_istore 6 [some (.ref (h 4)), some (.int p1), some (.int p2), some (.int p3), some (.int p4), some (.int p5), some (.int p3)] 3 C (by decide +kernel) rfl (by decide) rfl rfl ?_
  refine zr_less (zA (zA (zA (zN (zA (zA (zA zE))))))) ?_
  exact w_La_split_3 C T E zfu _ _ _ _ _ _ hf
theorem y_La_split : zY yX2_split cX2_split 7 none 5 := ⟨q_793, q_77, by decide +kernel, by decide +kernel, by decide +kernel⟩
theorem k_La_split {l : Launch} {d : zD} {F : zF} {h : Nat → Nat} {σ : zS} {lv : List (Option Value)} {pc : Nat} {own : String} {cc : ByteArray} {nL fr lo idx : Nat} {rest : List Value} {β : Type} {kf : Int32 → zS → Option β} {o2 : β} {ad av : Nat → Nat}  {p1 : Int32} {p2 : Int32} {p3 : Int32} {p4 : Int32} {p5 : Int32} (pc' : Nat) (C : zOk d F own cc nL fr lo) (E : zXe d ad av) (hd : decode cc pc = .ok (.invokevirtual idx, 3)) (hp : pc + 3 = pc') (hq : Cond.methodLink own idx yX2_split ∈ zW) (hm : 0 + 1 ≤ fr ∧ 8 + (7 + 11) + 0 ≤ lo) (hr : (rest.map fun v => v.category).sum ≤ 8) (hf : zbd (f_La_split p1 p2 p3 p4 p5 σ) kf = some o2) (K : ∀ (r : Int32) (σ' : zS), kf r σ' = some o2 → V l d F 0 0 (XW d h σ') lv pc' (rest)) : V l d F 0 0 (XW d h σ) lv pc (.int p5 :: .int p4 :: .int p3 :: .int p2 :: .int p1 :: .ref (h 4) :: rest) := by
  obtain ⟨q, h1, h2⟩ := zbd_some hf
  exact zr_callV y_La_split ⟨q_791, q_792⟩ 4 rfl rfl (As := [.int p1, .int p2, .int p3, .int p4, .int p5]) (m_La_split E h1) rfl rfl pc' C hd hp hq hm hr (K _ _ h2)
