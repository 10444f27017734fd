/-! StepsBeyondModel.loaf(I)I -/
def f_M_loaf (p1 : Int32) (σ : zS) : Option (Int32 × zS) :=
  zbd (f_M_isPlace p1 σ) fun r2 σ1 =>
  (if r2 = 0 then
  some (-2, σ1)
  else
  zlt (σ1.1 7) fun v3 => 
  zlt (zsg σ1 7 p1) fun σ4 =>
  some (v3, σ4))
set_option maxRecDepth 4000 in
theorem m_M_loaf {l : Launch} {d : zD} {h : Nat → Nat} {out : Int32 × zS} {σ : zS} {p1 : Int32} (hf : f_M_loaf p1 σ = some out) : zM l yX11_loaf cX11_loaf 3 (some .int) 2 42 d [.ref (h 0), .int p1] (MW d h σ) (MW d h out.2) (some (.int out.1)) := by
  refine zM_of [some (.ref (h 0)), some (.int p1), none] (by decide +kernel) rfl (Nat.le_of_ble_eq_true rfl) (fun F C T => ?_)
  unfold f_M_loaf at hf
  refine zr_iload_n 1 1 C (by decide +kernel) rfl rfl ?_
  refine k_M_isPlace (idx := 150) 4 C (by decide +kernel) rfl q_1178 (zb2 rfl rfl) (Nat.le_of_ble_eq_true rfl) hf (fun r2 σ1 hf => ?_)
  refine zr_if_ne (off := 6) 10 7 C (by decide +kernel) (by decide) rfl hf (fun hf => ?_) (fun hf => ?_)
  · refine zr_aload_n 0 11 C (by decide +kernel) rfl rfl ?_
    refine mg_0_7 (idx := 260) 14 C (by decide +kernel) rfl q_998 ?_
    refine zr_name hf (fun v3 hf => ?_)
    refine zr_istore_n 2 [some (.ref (h 0)), some (.int p1), some (.int v3)] 15 C (by decide +kernel) rfl (by decide) rfl rfl ?_
    refine zr_aload_n 0 16 C (by decide +kernel) rfl rfl ?_
    refine zr_iload_n 1 17 C (by decide +kernel) rfl rfl ?_
    refine mp_0_7 (idx := 260) 20 C (by decide +kernel) rfl q_998 hf (fun σ4 hf => ?_)
    refine zr_iload_n 2 21 C (by decide +kernel) rfl rfl ?_
    obtain rfl := Option.some.inj hf
    exact zr_iret C (by decide +kernel) T
  · refine zr_bipush (v := (-2)) (-2) 9 C (by decide +kernel) rfl rfl ?_
    obtain rfl := Option.some.inj hf
    exact zr_iret C (by decide +kernel) T
theorem y_M_loaf : zY yX11_loaf cX11_loaf 3 (some .int) 1 := ⟨q_1308, q_90, by decide +kernel, by decide +kernel, by decide +kernel⟩
theorem k_M_loaf {l : Launch} {d : zD} {F : zF} {h : Nat → Nat} {σ : zS} {lv : List (Option Value)} {pc : Nat} {own : String} {cc : ByteArray} {nL fr lo idx : Nat} {rest : List Value} {β : Type} {kf : Int32 → zS → Option β} {o2 : β}  {p1 : Int32} (pc' : Nat) (C : zOk d F own cc nL fr lo) (hd : decode cc pc = .ok (.invokevirtual idx, 3)) (hp : pc + 3 = pc') (hq : Cond.methodLink own idx yX11_loaf ∈ zW) (hm : 2 + 1 ≤ fr ∧ 8 + (3 + 11) + 42 ≤ lo) (hr : (rest.map fun v => v.category).sum ≤ 8) (hf : zbd (f_M_loaf p1 σ) kf = some o2) (K : ∀ (r : Int32) (σ' : zS), kf r σ' = some o2 → V l d F 0 0 (MW d h σ') lv pc' (.int r :: rest)) : V l d F 0 0 (MW d h σ) lv pc (.int p1 :: .ref (h 0) :: rest) := by
  obtain ⟨q, h1, h2⟩ := zbd_some hf
  exact zr_callV y_M_loaf ⟨q_1306, q_1307⟩ 0 rfl rfl (As := [.int p1]) (m_M_loaf h1) rfl rfl pc' C hd hp hq hm hr (K _ _ h2)
/-! StepsBeyondModel.reach(I)I -/
def f_M_reach_27  (x1 : Int32) (x2 : Int32) (σ : zS) : Option (Int32 × zS) :=
  zin x1 12 ((if (σ.2 3 x1.toNatClampNeg) = 3 then
  some (x2 / 2, σ)
  else
  zin x1 12 ((if (σ.2 3 x1.toNatClampNeg) = 4 then
  zbd (f_M_farBy 0 σ) fun r2 σ1 =>
  some (x2 + r2, σ1)
  else
  (if 0 ≤ x2 then
  some (x2, σ)
  else
  some (0, σ))))))
set_option maxRecDepth 4000 in
theorem w_M_reach_27 {l : Launch} {d : zD} {F : zF} {h : Nat → Nat} {out : Int32 × zS}   (C : zOk d F RX11 cX11_reach 3 3 68) (T : zRt d F (some .int) (some (.int out.1)) (MW d h out.2))  (x1 : Int32) (x2 : Int32) (σ : zS) (hf : f_M_reach_27  x1 x2 σ = some out) : V l d F 0 0 (MW d h σ) [some (.ref (h 0)), some (.int x1), some (.int x2)] 27 [] := by
  unfold f_M_reach_27 at hf
  refine zr_aload_n 0 28 C (by decide +kernel) rfl rfl ?_
  refine mg_0_4 (idx := 16) 31 C (by decide +kernel) rfl q_995 ?_
  refine zr_iload_n 1 32 C (by decide +kernel) rfl rfl ?_
  refine ml_3 33 C (by decide +kernel) rfl hf (fun hf => ?_)
  refine zr_iconst (v := 3) 3 34 C (by decide +kernel) rfl rfl ?_
  refine zr_icmp_ne (off := 9) 43 37 C (by decide +kernel) (by decide) rfl hf (fun hf => ?_) (fun hf => ?_)
  · refine zr_aload_n 0 44 C (by decide +kernel) rfl rfl ?_
    refine mg_0_4 (idx := 16) 47 C (by decide +kernel) rfl q_995 ?_
    refine zr_iload_n 1 48 C (by decide +kernel) rfl rfl ?_
    refine ml_3 49 C (by decide +kernel) rfl hf (fun hf => ?_)
    refine zr_iconst (v := 4) 4 50 C (by decide +kernel) rfl rfl ?_
    refine zr_icmp_ne (off := 13) 63 53 C (by decide +kernel) (by decide) rfl hf (fun hf => ?_) (fun hf => ?_)
    · refine zr_iload_n 2 64 C (by decide +kernel) rfl rfl ?_
      refine zr_if_ge (off := 7) 71 67 C (by decide +kernel) (by decide) rfl hf (fun hf => ?_) (fun hf => ?_)
      · refine zr_iload_n 2 72 C (by decide +kernel) rfl rfl ?_
        obtain rfl := Option.some.inj hf
        exact zr_iret C (by decide +kernel) T
      · refine zr_iconst (v := 0) 0 68 C (by decide +kernel) rfl rfl ?_
        refine zr_goto (off := 4) 72 C (by decide +kernel) (by decide) ?_
        obtain rfl := Option.some.inj hf
        exact zr_iret C (by decide +kernel) T
    · refine zr_iload_n 2 54 C (by decide +kernel) rfl rfl ?_
      refine zr_aload_n 0 55 C (by decide +kernel) rfl rfl ?_
      refine zr_iconst (v := 0) 0 56 C (by decide +kernel) rfl rfl ?_
      refine k_M_farBy (idx := 242) 59 C (by decide +kernel) rfl q_1274 (zb2 rfl rfl) (Nat.le_of_ble_eq_true rfl) hf (fun r2 σ1 hf => ?_)
      refine zr_iadd 60 C (by decide +kernel) rfl ?_
      refine zr_goto (off := 12) 72 C (by decide +kernel) (by decide) ?_
      obtain rfl := Option.some.inj hf
      exact zr_iret C (by decide +kernel) T
  · refine zr_iload_n 2 38 C (by decide +kernel) rfl rfl ?_
    refine zr_iconst (v := 2) 2 39 C (by decide +kernel) rfl rfl ?_
    refine zr_idiv 40 C (by decide +kernel) rfl (by decide) ?_
    refine zr_goto (off := 32) 72 C (by decide +kernel) (by decide) ?_
    obtain rfl := Option.some.inj hf
    exact zr_iret C (by decide +kernel) T
def f_M_reach (p1 : Int32) (σ : zS) : Option (Int32 × zS) :=
  zin p1 12 (zlt (σ.2 5 p1.toNatClampNeg) fun v1 => 
  zin p1 12 ((if (σ.2 3 p1.toNatClampNeg) = 5 then
  zbd (f_M_farBy 1 σ) fun r3 σ2 =>
  zlt (v1 + (r3 - 1)) fun v4 => 
  f_M_reach_27 p1 v4 σ2
  else
  f_M_reach_27 p1 v1 σ)))
set_option maxRecDepth 4000 in
theorem m_M_reach {l : Launch} {d : zD} {h : Nat → Nat} {out : Int32 × zS} {σ : zS} {p1 : Int32} (hf : f_M_reach p1 σ = some out) : zM l yX11_reach cX11_reach 3 (some .int) 3 68 d [.ref (h 0), .int p1] (MW d h σ) (MW d h out.2) (some (.int out.1)) := by
  refine zM_of [some (.ref (h 0)), some (.int p1), none] (by decide +kernel) rfl (Nat.le_of_ble_eq_true rfl) (fun F C T => ?_)
  unfold f_M_reach at hf
  refine zr_aload_n 0 1 C (by decide +kernel) rfl rfl ?_
  refine mg_0_6 (idx := 22) 4 C (by decide +kernel) rfl q_997 ?_
  refine zr_iload_n 1 5 C (by decide +kernel) rfl rfl ?_
  refine ml_5 6 C (by decide +kernel) rfl hf (fun hf => ?_)
  refine zr_name hf (fun v1 hf => ?_)
  refine zr_istore_n 2 [some (.ref (h 0)), some (.int p1), some (.int v1)] 7 C (by decide +kernel) rfl (by decide) rfl rfl ?_
  refine zr_aload_n 0 8 C (by decide +kernel) rfl rfl ?_
  refine mg_0_4 (idx := 16) 11 C (by decide +kernel) rfl q_995 ?_
  refine zr_iload_n 1 12 C (by decide +kernel) rfl rfl ?_
  refine ml_3 13 C (by decide +kernel) rfl hf (fun hf => ?_)
  refine zr_iconst (v := 5) 5 14 C (by decide +kernel) rfl rfl ?_
  refine zr_icmp_ne (off := 13) 27 17 C (by decide +kernel) (by decide) rfl hf (fun hf => ?_) (fun hf => ?_)
  · exact w_M_reach_27 C T _ _ _ hf
  · refine zr_iload_n 2 18 C (by decide +kernel) rfl rfl ?_
    refine zr_aload_n 0 19 C (by decide +kernel) rfl rfl ?_
    refine zr_iconst (v := 1) 1 20 C (by decide +kernel) rfl rfl ?_
    refine k_M_farBy (idx := 242) 23 C (by decide +kernel) rfl q_1274 (zb2 rfl rfl) (Nat.le_of_ble_eq_true rfl) hf (fun r3 σ2 hf => ?_)
    refine zr_iconst (v := 1) 1 24 C (by decide +kernel) rfl rfl ?_
    refine zr_isub 25 C (by decide +kernel) rfl ?_
    refine zr_iadd 26 C (by decide +kernel) rfl ?_
    refine zr_name hf (fun v4 hf => ?_)
    refine zr_istore_n 2 [some (.ref (h 0)), some (.int p1), some (.int v4)] 27 C (by decide +kernel) rfl (by decide) rfl rfl ?_
    exact w_M_reach_27 C T _ _ _ hf
theorem y_M_reach : zY yX11_reach cX11_reach 3 (some .int) 1 := ⟨q_1320, q_90, by decide +kernel, by decide +kernel, by decide +kernel⟩
theorem k_M_reach {l : Launch} {d : zD} {F : zF} {h : Nat → Nat} {σ : zS} {lv : List (Option Value)} {pc : Nat} {own : String} {cc : ByteArray} {nL fr lo idx : Nat} {rest : List Value} {β : Type} {kf : Int32 → zS → Option β} {o2 : β}  {p1 : Int32} (pc' : Nat) (C : zOk d F own cc nL fr lo) (hd : decode cc pc = .ok (.invokevirtual idx, 3)) (hp : pc + 3 = pc') (hq : Cond.methodLink own idx yX11_reach ∈ zW) (hm : 3 + 1 ≤ fr ∧ 8 + (3 + 11) + 68 ≤ lo) (hr : (rest.map fun v => v.category).sum ≤ 8) (hf : zbd (f_M_reach p1 σ) kf = some o2) (K : ∀ (r : Int32) (σ' : zS), kf r σ' = some o2 → V l d F 0 0 (MW d h σ') lv pc' (.int r :: rest)) : V l d F 0 0 (MW d h σ) lv pc (.int p1 :: .ref (h 0) :: rest) := by
  obtain ⟨q, h1, h2⟩ := zbd_some hf
  exact zr_callV y_M_reach ⟨q_1319, q_55⟩ 0 rfl rfl (As := [.int p1]) (m_M_reach h1) rfl rfl pc' C hd hp hq hm hr (K _ _ h2)
/-! StepsBeyondModel.middle(I)I -/
def f_M_middle (p1 : Int32) (σ : zS) : Option (Int32 × zS) :=
  zin p1 12 ((if (σ.2 3 p1.toNatClampNeg) = 5 then
  some (σ.1 7, σ)
  else
  zin p1 12 (zin (σ.2 4 p1.toNatClampNeg) 20 (some (σ.2 1 (σ.2 4 p1.toNatClampNeg).toNatClampNeg, σ)))))
set_option maxRecDepth 4000 in
theorem m_M_middle {l : Launch} {d : zD} {h : Nat → Nat} {out : Int32 × zS} {σ : zS} {p1 : Int32} (hf : f_M_middle p1 σ = some out) : zM l yX11_middle cX11_middle 2 (some .int) 0 0 d [.ref (h 0), .int p1] (MW d h σ) (MW d h out.2) (some (.int out.1)) := by
  refine zM_of [some (.ref (h 0)), some (.int p1)] (by decide +kernel) rfl (Nat.le_of_ble_eq_true rfl) (fun F C T => ?_)
  unfold f_M_middle at hf
  refine zr_aload_n 0 1 C (by decide +kernel) rfl rfl ?_
  refine mg_0_4 (idx := 16) 4 C (by decide +kernel) rfl q_995 ?_
  refine zr_iload_n 1 5 C (by decide +kernel) rfl rfl ?_
  refine ml_3 6 C (by decide +kernel) rfl hf (fun hf => ?_)
  refine zr_iconst (v := 5) 5 7 C (by decide +kernel) rfl rfl ?_
  refine zr_icmp_ne (off := 10) 17 10 C (by decide +kernel) (by decide) rfl hf (fun hf => ?_) (fun hf => ?_)
  · refine zr_aload_n 0 18 C (by decide +kernel) rfl rfl ?_
    refine mg_0_1 (idx := 7) 21 C (by decide +kernel) rfl q_992 ?_
    refine zr_aload_n 0 22 C (by decide +kernel) rfl rfl ?_
    refine mg_0_5 (idx := 19) 25 C (by decide +kernel) rfl q_996 ?_
    refine zr_iload_n 1 26 C (by decide +kernel) rfl rfl ?_
    refine ml_4 27 C (by decide +kernel) rfl hf (fun hf => ?_)
    refine ml_1 28 C (by decide +kernel) rfl hf (fun hf => ?_)
    obtain rfl := Option.some.inj hf
    exact zr_iret C (by decide +kernel) T
  · refine zr_aload_n 0 11 C (by decide +kernel) rfl rfl ?_
    refine mg_0_7 (idx := 260) 14 C (by decide +kernel) rfl q_998 ?_
    refine zr_goto (off := 14) 28 C (by decide +kernel) (by decide) ?_
    obtain rfl := Option.some.inj hf
    exact zr_iret C (by decide +kernel) T
theorem y_M_middle : zY yX11_middle cX11_middle 2 (some .int) 1 := ⟨q_1324, q_90, by decide +kernel, by decide +kernel, by decide +kernel⟩
theorem k_M_middle {l : Launch} {d : zD} {F : zF} {h : Nat → Nat} {σ : zS} {lv : List (Option Value)} {pc : Nat} {own : String} {cc : ByteArray} {nL fr lo idx : Nat} {rest : List Value} {β : Type} {kf : Int32 → zS → Option β} {o2 : β}  {p1 : Int32} (pc' : Nat) (C : zOk d F own cc nL fr lo) (hd : decode cc pc = .ok (.invokevirtual idx, 3)) (hp : pc + 3 = pc') (hq : Cond.methodLink own idx yX11_middle ∈ zW) (hm : 0 + 1 ≤ fr ∧ 8 + (2 + 11) + 0 ≤ lo) (hr : (rest.map fun v => v.category).sum ≤ 8) (hf : zbd (f_M_middle p1 σ) kf = some o2) (K : ∀ (r : Int32) (σ' : zS), kf r σ' = some o2 → V l d F 0 0 (MW d h σ') lv pc' (.int r :: rest)) : V l d F 0 0 (MW d h σ) lv pc (.int p1 :: .ref (h 0) :: rest) := by
  obtain ⟨q, h1, h2⟩ := zbd_some hf
  exact zr_callV y_M_middle ⟨q_1323, q_56⟩ 0 rfl rfl (As := [.int p1]) (m_M_middle h1) rfl rfl pc' C hd hp hq hm hr (K _ _ h2)
/-! StepsBeyondModel.shapeTold(II)I -/
def f_M_shapeTold (p1 : Int32) (p2 : Int32) (σ : zS) : Option (Int32 × zS) :=
  zbd (f_M_isShape p1 σ) fun r2 σ1 =>
  (if r2 = 0 then
  some (-5, σ1)
  else
  (if p2 = 0 then
  zin p1 12 (some (σ1.2 3 p1.toNatClampNeg, σ1))
  else
  (if p2 = 1 then
  zin p1 12 (some (σ1.2 4 p1.toNatClampNeg, σ1))
  else
  (if p2 = 2 then
  zin p1 12 (some (σ1.2 5 p1.toNatClampNeg, σ1))
  else
  (if p2 = 3 then
  zbd (f_M_reach p1 σ1) fun r4 σ3 =>
  some (r4, σ3)
  else
  (if p2 = 4 then
  zbd (f_M_middle p1 σ1) fun r6 σ5 =>
  some (r6, σ5)
  else
  some (-7, σ1)))))))
set_option maxRecDepth 4000 in
theorem m_M_shapeTold {l : Launch} {d : zD} {h : Nat → Nat} {out : Int32 × zS} {σ : zS} {p1 : Int32} {p2 : Int32} (hf : f_M_shapeTold p1 p2 σ = some out) : zM l yX11_shapeTold cX11_shapeTold 3 (some .int) 4 90 d [.ref (h 0), .int p1, .int p2] (MW d h σ) (MW d h out.2) (some (.int out.1)) := by
  refine zM_of [some (.ref (h 0)), some (.int p1), some (.int p2)] (by decide +kernel) rfl (Nat.le_of_ble_eq_true rfl) (fun F C T => ?_)
  unfold f_M_shapeTold at hf
  refine zr_aload_n 0 1 C (by decide +kernel) rfl rfl ?_
  refine zr_iload_n 1 2 C (by decide +kernel) rfl rfl ?_
  refine k_M_isShape (idx := 263) 5 C (by decide +kernel) rfl q_1313 (zb2 rfl rfl) (Nat.le_of_ble_eq_true rfl) hf (fun r2 σ1 hf => ?_)
  refine zr_if_ne (off := 6) 11 8 C (by decide +kernel) (by decide) rfl hf (fun hf => ?_) (fun hf => ?_)
  · refine zr_iload_n 2 12 C (by decide +kernel) rfl rfl ?_
    refine zr_tcase (dflt := 69) (lw := 0) (hi := 4) (offs := #[36, 43, 50, 57, 63]) (len := 36) (off := 36) (j := 0) 0 48 C (by decide +kernel) (by decide) (by decide) rfl (by decide) hf (fun hf => ?_) (fun hn0 hf => ?_)
    · refine zr_aload_n 0 49 C (by decide +kernel) rfl rfl ?_
      refine mg_0_4 (idx := 16) 52 C (by decide +kernel) rfl q_995 ?_
      refine zr_iload_n 1 53 C (by decide +kernel) rfl rfl ?_
      refine ml_3 54 C (by decide +kernel) rfl hf (fun hf => ?_)
      obtain rfl := Option.some.inj hf
      exact zr_iret C (by decide +kernel) T
    refine zr_tcase (dflt := 69) (lw := 0) (hi := 4) (offs := #[36, 43, 50, 57, 63]) (len := 36) (off := 43) (j := 1) 1 55 C (by decide +kernel) (by decide) (by decide) rfl (by decide) hf (fun hf => ?_) (fun hn1 hf => ?_)
    · refine zr_aload_n 0 56 C (by decide +kernel) rfl rfl ?_
      refine mg_0_5 (idx := 19) 59 C (by decide +kernel) rfl q_996 ?_
      refine zr_iload_n 1 60 C (by decide +kernel) rfl rfl ?_
      refine ml_4 61 C (by decide +kernel) rfl hf (fun hf => ?_)
      obtain rfl := Option.some.inj hf
      exact zr_iret C (by decide +kernel) T
    refine zr_tcase (dflt := 69) (lw := 0) (hi := 4) (offs := #[36, 43, 50, 57, 63]) (len := 36) (off := 50) (j := 2) 2 62 C (by decide +kernel) (by decide) (by decide) rfl (by decide) hf (fun hf => ?_) (fun hn2 hf => ?_)
    · refine zr_aload_n 0 63 C (by decide +kernel) rfl rfl ?_
      refine mg_0_6 (idx := 22) 66 C (by decide +kernel) rfl q_997 ?_
      refine zr_iload_n 1 67 C (by decide +kernel) rfl rfl ?_
      refine ml_5 68 C (by decide +kernel) rfl hf (fun hf => ?_)
      obtain rfl := Option.some.inj hf
      exact zr_iret C (by decide +kernel) T
    refine zr_tcase (dflt := 69) (lw := 0) (hi := 4) (offs := #[36, 43, 50, 57, 63]) (len := 36) (off := 57) (j := 3) 3 69 C (by decide +kernel) (by decide) (by decide) rfl (by decide) hf (fun hf => ?_) (fun hn3 hf => ?_)
    · refine zr_aload_n 0 70 C (by decide +kernel) rfl rfl ?_
      refine zr_iload_n 1 71 C (by decide +kernel) rfl rfl ?_
      refine k_M_reach (idx := 266) 74 C (by decide +kernel) rfl q_1317 (zb2 rfl rfl) (Nat.le_of_ble_eq_true rfl) hf (fun r4 σ3 hf => ?_)
      obtain rfl := Option.some.inj hf
      exact zr_iret C (by decide +kernel) T
    refine zr_tcase (dflt := 69) (lw := 0) (hi := 4) (offs := #[36, 43, 50, 57, 63]) (len := 36) (off := 63) (j := 4) 4 75 C (by decide +kernel) (by decide) (by decide) rfl (by decide) hf (fun hf => ?_) (fun hn4 hf => ?_)
    · refine zr_aload_n 0 76 C (by decide +kernel) rfl rfl ?_
      refine zr_iload_n 1 77 C (by decide +kernel) rfl rfl ?_
      refine k_M_middle (idx := 269) 80 C (by decide +kernel) rfl q_1321 (zb2 rfl rfl) (Nat.le_of_ble_eq_true rfl) hf (fun r6 σ5 hf => ?_)
      obtain rfl := Option.some.inj hf
      exact zr_iret C (by decide +kernel) T
    refine zr_tdflt (dflt := 69) (lw := 0) (hi := 4) (offs := #[36, 43, 50, 57, 63]) (len := 36) 81 C (by decide +kernel) (by decide) (by decide) (fun j hj hx => ?_) ?_
    · rcases (show j = 0 ∨ j = 1 ∨ j = 2 ∨ j = 3 ∨ j = 4 by have hj2 : j < 5 := hj; omega) with rfl | rfl | rfl | rfl | rfl
      · exact absurd (z_ti (c := 0) (by decide) hx) hn0
      · exact absurd (z_ti (c := 1) (by decide) hx) hn1
      · exact absurd (z_ti (c := 2) (by decide) hx) hn2
      · exact absurd (z_ti (c := 3) (by decide) hx) hn3
      · exact absurd (z_ti (c := 4) (by decide) hx) hn4
    refine zr_bipush (v := (-7)) (-7) 83 C (by decide +kernel) rfl rfl ?_
    obtain rfl := Option.some.inj hf
    exact zr_iret C (by decide +kernel) T
  · refine zr_bipush (v := (-5)) (-5) 10 C (by decide +kernel) rfl rfl ?_
    obtain rfl := Option.some.inj hf
    exact zr_iret C (by decide +kernel) T
theorem y_M_shapeTold : zY yX11_shapeTold cX11_shapeTold 3 (some .int) 2 := ⟨q_1312, q_90, by decide +kernel, by decide +kernel, by decide +kernel⟩
theorem k_M_shapeTold {l : Launch} {d : zD} {F : zF} {h : Nat → Nat} {σ : zS} {lv : List (Option Value)} {pc : Nat} {own : String} {cc : ByteArray} {nL fr lo idx : Nat} {rest : List Value} {β : Type} {kf : Int32 → zS → Option β} {o2 : β}  {p1 : Int32} {p2 : Int32} (pc' : Nat) (C : zOk d F own cc nL fr lo) (hd : decode cc pc = .ok (.invokevirtual idx, 3)) (hp : pc + 3 = pc') (hq : Cond.methodLink own idx yX11_shapeTold ∈ zW) (hm : 4 + 1 ≤ fr ∧ 8 + (3 + 11) + 90 ≤ lo) (hr : (rest.map fun v => v.category).sum ≤ 8) (hf : zbd (f_M_shapeTold p1 p2 σ) kf = some o2) (K : ∀ (r : Int32) (σ' : zS), kf r σ' = some o2 → V l d F 0 0 (MW d h σ') lv pc' (.int r :: rest)) : V l d F 0 0 (MW d h σ) lv pc (.int p2 :: .int p1 :: .ref (h 0) :: rest) := by
  obtain ⟨q, h1, h2⟩ := zbd_some hf
  exact zr_callV y_M_shapeTold ⟨q_1310, q_1311⟩ 0 rfl rfl (As := [.int p1, .int p2]) (m_M_shapeTold h1) rfl rfl pc' C hd hp hq hm hr (K _ _ h2)
/-! StepsBeyondModel.spans(I)V -/
def f_M_spans_87  (y1 : Int32) (σ : zS) : Option (Int32 × zS) :=
  zlt (zsg σ 51 y1) fun σ1 =>
  some (0, σ1)
set_option maxRecDepth 4000 in
theorem w_M_spans_87 {l : Launch} {d : zD} {F : zF} {h : Nat → Nat} {out : Int32 × zS}   (C : zOk d F RX11 cX11_spans 4 0 0) (T : zRt d F none none (MW d h out.2))  (y1 : Int32) (σ : zS) (hf : f_M_spans_87  y1 σ = some out) : V l d F 0 0 (MW d h σ) [none, none, none, none] 87 [.int y1, .ref (h 0)] := by
  unfold f_M_spans_87 at hf
  refine mp_0_51 (idx := 281) 90 C (by decide +kernel) rfl q_1042 hf (fun σ1 hf => ?_)
  obtain rfl := Option.some.inj hf
  exact zr_vret C (by decide +kernel) T
def f_M_spans_67  (x3 : Int32) (y1 : Int32) (σ : zS) : Option (Int32 × zS) :=
  zlt (zsg σ 50 y1) fun σ1 =>
  (if x3 ≤ (σ1.1 51) then
  f_M_spans_87 (σ1.1 51) σ1
  else
  f_M_spans_87 x3 σ1)
set_option maxRecDepth 4000 in
theorem w_M_spans_67 {l : Launch} {d : zD} {F : zF} {h : Nat → Nat} {out : Int32 × zS}   (C : zOk d F RX11 cX11_spans 4 0 0) (T : zRt d F none none (MW d h out.2))  (x3 : Int32) (y1 : Int32) (σ : zS) (hf : f_M_spans_67  x3 y1 σ = some out) : V l d F 0 0 (MW d h σ) [some (.ref (h 0)), none, none, some (.int x3)] 67 [.int y1, .ref (h 0)] := by
  unfold f_M_spans_67 at hf
  refine mp_0_50 (idx := 278) 70 C (by decide +kernel) rfl q_1041 hf (fun σ1 hf => ?_)
  refine zr_aload_n 0 71 C (by decide +kernel) rfl rfl ?_
  refine zr_iload_n 3 72 C (by decide +kernel) rfl rfl ?_
  refine zr_aload_n 0 73 C (by decide +kernel) rfl rfl ?_
  refine mg_0_51 (idx := 281) 76 C (by decide +kernel) rfl q_1042 ?_
  refine zr_icmp_le (off := 7) 83 79 C (by decide +kernel) (by decide) rfl hf (fun hf => ?_) (fun hf => ?_)
  · refine zr_aload_n 0 84 C (by decide +kernel) rfl rfl ?_
    refine mg_0_51 (idx := 281) 87 C (by decide +kernel) rfl q_1042 ?_
    refine zr_less (zN (zN (zN (zN zE)))) ?_
    exact w_M_spans_87 C T _ _ hf
  · refine zr_iload_n 3 80 C (by decide +kernel) rfl rfl ?_
    refine zr_goto (off := 7) 87 C (by decide +kernel) (by decide) ?_
    refine zr_less (zN (zN (zN (zN zE)))) ?_
    exact w_M_spans_87 C T _ _ hf
def f_M_spans_47  (x3 : Int32) (y1 : Int32) (σ : zS) : Option (Int32 × zS) :=
  zlt (zsg σ 49 y1) fun σ1 =>
  (if (σ1.1 50) ≤ x3 then
  f_M_spans_67 x3 (σ1.1 50) σ1
  else
  f_M_spans_67 x3 x3 σ1)
set_option maxRecDepth 4000 in
theorem w_M_spans_47 {l : Launch} {d : zD} {F : zF} {h : Nat → Nat} {out : Int32 × zS}   (C : zOk d F RX11 cX11_spans 4 0 0) (T : zRt d F none none (MW d h out.2))  (x3 : Int32) (y1 : Int32) (σ : zS) (hf : f_M_spans_47  x3 y1 σ = some out) : V l d F 0 0 (MW d h σ) [some (.ref (h 0)), none, none, some (.int x3)] 47 [.int y1, .ref (h 0)] := by
  unfold f_M_spans_47 at hf
  refine mp_0_49 (idx := 275) 50 C (by decide +kernel) rfl q_1040 hf (fun σ1 hf => ?_)
  refine zr_aload_n 0 51 C (by decide +kernel) rfl rfl ?_
  refine zr_iload_n 3 52 C (by decide +kernel) rfl rfl ?_
  refine zr_aload_n 0 53 C (by decide +kernel) rfl rfl ?_
  refine mg_0_50 (idx := 278) 56 C (by decide +kernel) rfl q_1041 ?_
  refine zr_icmp_ge (off := 7) 63 59 C (by decide +kernel) (by decide) rfl hf (fun hf => ?_) (fun hf => ?_)
  · refine zr_aload_n 0 64 C (by decide +kernel) rfl rfl ?_
    refine mg_0_50 (idx := 278) 67 C (by decide +kernel) rfl q_1041 ?_
    exact w_M_spans_67 C T _ _ _ hf
  · refine zr_iload_n 3 60 C (by decide +kernel) rfl rfl ?_
    refine zr_goto (off := 7) 67 C (by decide +kernel) (by decide) ?_
    exact w_M_spans_67 C T _ _ _ hf
def f_M_spans_27  (x2 : Int32) (x3 : Int32) (y1 : Int32) (σ : zS) : Option (Int32 × zS) :=
  zlt (zsg σ 48 y1) fun σ1 =>
  (if x2 ≤ (σ1.1 49) then
  f_M_spans_47 x3 (σ1.1 49) σ1
  else
  f_M_spans_47 x3 x2 σ1)
set_option maxRecDepth 4000 in
theorem w_M_spans_27 {l : Launch} {d : zD} {F : zF} {h : Nat → Nat} {out : Int32 × zS}   (C : zOk d F RX11 cX11_spans 4 0 0) (T : zRt d F none none (MW d h out.2))  (x2 : Int32) (x3 : Int32) (y1 : Int32) (σ : zS) (hf : f_M_spans_27  x2 x3 y1 σ = some out) : V l d F 0 0 (MW d h σ) [some (.ref (h 0)), none, some (.int x2), some (.int x3)] 27 [.int y1, .ref (h 0)] := by
  unfold f_M_spans_27 at hf
  refine mp_0_48 (idx := 272) 30 C (by decide +kernel) rfl q_1039 hf (fun σ1 hf => ?_)
  refine zr_aload_n 0 31 C (by decide +kernel) rfl rfl ?_
  refine zr_iload_n 2 32 C (by decide +kernel) rfl rfl ?_
  refine zr_aload_n 0 33 C (by decide +kernel) rfl rfl ?_
  refine mg_0_49 (idx := 275) 36 C (by decide +kernel) rfl q_1040 ?_
  refine zr_icmp_le (off := 7) 43 39 C (by decide +kernel) (by decide) rfl hf (fun hf => ?_) (fun hf => ?_)
  · refine zr_aload_n 0 44 C (by decide +kernel) rfl rfl ?_
    refine mg_0_49 (idx := 275) 47 C (by decide +kernel) rfl q_1040 ?_
    refine zr_less (zA (zN (zN (zA zE)))) ?_
    exact w_M_spans_47 C T _ _ _ hf
  · refine zr_iload_n 2 40 C (by decide +kernel) rfl rfl ?_
    refine zr_goto (off := 7) 47 C (by decide +kernel) (by decide) ?_
    refine zr_less (zA (zN (zN (zA zE)))) ?_
    exact w_M_spans_47 C T _ _ _ hf
def f_M_spans (p1 : Int32) (σ : zS) : Option (Int32 × zS) :=
  zlt (zrem p1 40) fun v1 => 
  zlt (p1 / 40) fun v2 => 
  (if (σ.1 48) ≤ v1 then
  f_M_spans_27 v1 v2 (σ.1 48) σ
  else
  f_M_spans_27 v1 v2 v1 σ)
set_option maxRecDepth 4000 in
theorem m_M_spans {l : Launch} {d : zD} {h : Nat → Nat} {out : Int32 × zS} {σ : zS} {p1 : Int32} (hf : f_M_spans p1 σ = some out) : zM l yX11_spans cX11_spans 4 none 0 0 d [.ref (h 0), .int p1] (MW d h σ) (MW d h out.2) none := by
  refine zM_of [some (.ref (h 0)), some (.int p1), none, none] (by decide +kernel) rfl (Nat.le_of_ble_eq_true rfl) (fun F C T => ?_)
  unfold f_M_spans at hf
  refine zr_iload_n 1 1 C (by decide +kernel) rfl rfl ?_
  refine zr_bipush (v := 40) 40 3 C (by decide +kernel) rfl rfl ?_
  refine zr_irem 4 C (by decide +kernel) rfl (by decide) ?_
  refine zr_name hf (fun v1 hf => ?_)
  refine zr_istore_n 2 [some (.ref (h 0)), some (.int p1), some (.int v1), none] 5 C (by decide +kernel) rfl (by decide) rfl rfl ?_
  refine zr_iload_n 1 6 C (by decide +kernel) rfl rfl ?_
  refine zr_bipush (v := 40) 40 8 C (by decide +kernel) rfl rfl ?_
  refine zr_idiv 9 C (by decide +kernel) rfl (by decide) ?_
  refine zr_name hf (fun v2 hf => ?_)
  refine zr_istore_n 3 [some (.ref (h 0)), some (.int p1), some (.int v1), some (.int v2)] 10 C (by decide +kernel) rfl (by decide) rfl rfl ?_
  refine zr_aload_n 0 11 C (by decide +kernel) rfl rfl ?_
  refine zr_iload_n 2 12 C (by decide +kernel) rfl rfl ?_
  refine zr_aload_n 0 13 C (by decide +kernel) rfl rfl ?_
  refine mg_0_48 (idx := 272) 16 C (by decide +kernel) rfl q_1039 ?_
  refine zr_icmp_ge (off := 7) 23 19 C (by decide +kernel) (by decide) rfl hf (fun hf => ?_) (fun hf => ?_)
  · refine zr_aload_n 0 24 C (by decide +kernel) rfl rfl ?_
    refine mg_0_48 (idx := 272) 27 C (by decide +kernel) rfl q_1039 ?_
    refine zr_less (zA (zN (zA (zA zE)))) ?_
    exact w_M_spans_27 C T _ _ _ _ hf
  · refine zr_iload_n 2 20 C (by decide +kernel) rfl rfl ?_
    refine zr_goto (off := 7) 27 C (by decide +kernel) (by decide) ?_
    refine zr_less (zA (zN (zA (zA zE)))) ?_
    exact w_M_spans_27 C T _ _ _ _ hf
theorem y_M_spans : zY yX11_spans cX11_spans 4 none 1 := ⟨q_1336, q_90, by decide +kernel, by decide +kernel, by decide +kernel⟩
theorem k_M_spans {l : Launch} {d : zD} {F : zF} {h : Nat → Nat} {σ : zS} {lv : List (Option Value)} {pc : Nat} {own : String} {cc : ByteArray} {nL fr lo idx : Nat} {rest : List Value} {β : Type} {kf : Int32 → zS → Option β} {o2 : β}  {p1 : Int32} (pc' : Nat) (C : zOk d F own cc nL fr lo) (hd : decode cc pc = .ok (.invokevirtual idx, 3)) (hp : pc + 3 = pc') (hq : Cond.methodLink own idx yX11_spans ∈ zW) (hm : 0 + 1 ≤ fr ∧ 8 + (4 + 11) + 0 ≤ lo) (hr : (rest.map fun v => v.category).sum ≤ 8) (hf : zbd (f_M_spans p1 σ) kf = some o2) (K : ∀ (r : Int32) (σ' : zS), kf r σ' = some o2 → V l d F 0 0 (MW d h σ') lv pc' (rest)) : V l d F 0 0 (MW d h σ) lv pc (.int p1 :: .ref (h 0) :: rest) := by
  obtain ⟨q, h1, h2⟩ := zbd_some hf
  exact zr_callV y_M_spans ⟨q_1335, q_58⟩ 0 rfl rfl (As := [.int p1]) (m_M_spans h1) rfl rfl pc' C hd hp hq hm hr (K _ _ h2)
/-! StepsBeyondModel.looks(I)V -/
def f_M_looks_105 (k65 : Int32 → Int32 → zS → Option (Int32 × zS)) (x1 : Int32) (x2 : Int32) (σ : zS) : Option (Int32 × zS) :=
  k65 x1 (x2 + 1) σ
set_option maxRecDepth 4000 in
theorem w_M_looks_105 {l : Launch} {d : zD} {F : zF} {h : Nat → Nat} {out : Int32 × zS}  {k65 : Int32 → Int32 → zS → Option (Int32 × zS)} (C : zOk d F RX11 cX11_looks 3 6 140) (T : zRt d F none none (MW d h out.2)) (H65 : ∀ (x1 : Int32) (x2 : Int32) (σ : zS), k65 x1 x2 σ = some out → V l d F 0 0 (MW d h σ) [some (.ref (h 0)), some (.int x1), some (.int x2)] 65 []) (x1 : Int32) (x2 : Int32) (σ : zS) (hf : f_M_looks_105 k65 x1 x2 σ = some out) : V l d F 0 0 (MW d h σ) [some (.ref (h 0)), some (.int x1), some (.int x2)] 105 [] := by
  unfold f_M_looks_105 at hf
  refine zr_iinc (j := 1) 2 [some (.ref (h 0)), some (.int x1), some (.int (x2 + 1))] 108 C (by decide +kernel) rfl rfl rfl (by decide) rfl rfl ?_
  refine zr_goto (off := -43) 65 C (by decide +kernel) (by decide) ?_
  exact H65 _ _ _ hf
def f_M_looks_65b (k65 : Int32 → Int32 → zS → Option (Int32 × zS)) (x1 : Int32) (x2 : Int32) (σ : zS) : Option (Int32 × zS) :=
  (if (σ.1 0) ≤ x2 then
  some (0, σ)
  else
  zin x1 12 ((if (σ.2 3 x1.toNatClampNeg) = 5 then
  some (0, σ)
  else
  (if ((zshr (σ.1 47) x2) &&& 1) = 1 then
  zin x2 20 (zbd (f_M_spans (σ.2 1 x2.toNatClampNeg) σ) fun _ σ1 =>
  f_M_looks_105 k65 x1 x2 σ1)
  else
  f_M_looks_105 k65 x1 x2 σ))))
set_option maxRecDepth 4000 in
theorem w_M_looks_65b {l : Launch} {d : zD} {F : zF} {h : Nat → Nat} {out : Int32 × zS}  {k65 : Int32 → Int32 → zS → Option (Int32 × zS)} (C : zOk d F RX11 cX11_looks 3 6 140) (T : zRt d F none none (MW d h out.2)) (H65 : ∀ (x1 : Int32) (x2 : Int32) (σ : zS), k65 x1 x2 σ = some out → V l d F 0 0 (MW d h σ) [some (.ref (h 0)), some (.int x1), some (.int x2)] 65 []) (x1 : Int32) (x2 : Int32) (σ : zS) (hf : f_M_looks_65b k65 x1 x2 σ = some out) : V l d F 0 0 (MW d h σ) [some (.ref (h 0)), some (.int x1), some (.int x2)] 65 [] := by
  unfold f_M_looks_65b at hf
  refine zr_iload_n 2 66 C (by decide +kernel) rfl rfl ?_
  refine zr_aload_n 0 67 C (by decide +kernel) rfl rfl ?_
  refine mg_0_0 (idx := 143) 70 C (by decide +kernel) rfl q_991 ?_
  refine zr_icmp_ge (off := 41) 111 73 C (by decide +kernel) (by decide) rfl hf (fun hf => ?_) (fun hf => ?_)
  · obtain rfl := Option.some.inj hf
    exact zr_vret C (by decide +kernel) T
  · refine zr_aload_n 0 74 C (by decide +kernel) rfl rfl ?_
    refine mg_0_4 (idx := 16) 77 C (by decide +kernel) rfl q_995 ?_
    refine zr_iload_n 1 78 C (by decide +kernel) rfl rfl ?_
    refine ml_3 79 C (by decide +kernel) rfl hf (fun hf => ?_)
    refine zr_iconst (v := 5) 5 80 C (by decide +kernel) rfl rfl ?_
    refine zr_icmp_eq (off := 31) 111 83 C (by decide +kernel) (by decide) rfl hf (fun hf => ?_) (fun hf => ?_)
    · obtain rfl := Option.some.inj hf
      exact zr_vret C (by decide +kernel) T
    · refine zr_aload_n 0 84 C (by decide +kernel) rfl rfl ?_
      refine mg_0_47 (idx := 287) 87 C (by decide +kernel) rfl q_1038 ?_
      refine zr_iload_n 2 88 C (by decide +kernel) rfl rfl ?_
      refine zr_ishr 89 C (by decide +kernel) rfl ?_
      refine zr_iconst (v := 1) 1 90 C (by decide +kernel) rfl rfl ?_
      refine zr_iand 91 C (by decide +kernel) rfl ?_
      refine zr_iconst (v := 1) 1 92 C (by decide +kernel) rfl rfl ?_
      refine zr_icmp_ne (off := 13) 105 95 C (by decide +kernel) (by decide) rfl hf (fun hf => ?_) (fun hf => ?_)
      · exact w_M_looks_105 C T H65 _ _ _ hf
      · refine zr_aload_n 0 96 C (by decide +kernel) rfl rfl ?_
        refine zr_aload_n 0 97 C (by decide +kernel) rfl rfl ?_
        refine mg_0_1 (idx := 7) 100 C (by decide +kernel) rfl q_992 ?_
        refine zr_iload_n 2 101 C (by decide +kernel) rfl rfl ?_
        refine ml_1 102 C (by decide +kernel) rfl hf (fun hf => ?_)
        refine k_M_spans (idx := 290) 105 C (by decide +kernel) rfl q_1333 (zb2 rfl rfl) (Nat.le_of_ble_eq_true rfl) hf (fun _ σ1 hf => ?_)
        exact w_M_looks_105 C T H65 _ _ _ hf
def f_M_looks_65  : Nat → Int32 → Int32 → zS → Option (Int32 × zS)
  | 0, _, _, _ => none
  | n + 1, x1, x2,  σ => f_M_looks_65b (fun x1 x2 σ => f_M_looks_65  n x1 x2 σ) x1 x2 σ
theorem w_M_looks_65 {l : Launch} {d : zD} {F : zF} {h : Nat → Nat} {out : Int32 × zS}   (C : zOk d F RX11 cX11_looks 3 6 140) (T : zRt d F none none (MW d h out.2))  : ∀ (n : Nat) (x1 : Int32) (x2 : Int32) (σ : zS), f_M_looks_65  n x1 x2 σ = some out → V l d F 0 0 (MW d h σ) [some (.ref (h 0)), some (.int x1), some (.int x2)] 65 [] := by
  intro n
  induction n with
  | zero =>
    intro x1 x2 σ hf
    cases hf
  | succ n ih =>
    intro x1 x2 σ hf
    exact w_M_looks_65b C T ih x1 x2 σ hf
def f_M_looks_63  (x1 : Int32) (σ : zS) : Option (Int32 × zS) :=
  f_M_looks_65 zfu x1 0 σ
set_option maxRecDepth 4000 in
theorem w_M_looks_63 {l : Launch} {d : zD} {F : zF} {h : Nat → Nat} {out : Int32 × zS}   (C : zOk d F RX11 cX11_looks 3 6 140) (T : zRt d F none none (MW d h out.2))  (x1 : Int32) (σ : zS) (hf : f_M_looks_63  x1 σ = some out) : V l d F 0 0 (MW d h σ) [some (.ref (h 0)), some (.int x1), none] 63 [] := by
  unfold f_M_looks_63 at hf
  refine zr_iconst (v := 0) 0 64 C (by decide +kernel) rfl rfl ?_
  refine zr_istore_n 2 [some (.ref (h 0)), some (.int x1), some (.int 0)] 65 C (by decide +kernel) rfl (by decide) rfl rfl ?_
  exact w_M_looks_65 C T zfu _ _ _ hf
def f_M_looks (p1 : Int32) (σ : zS) : Option (Int32 × zS) :=
  zbd (f_M_reach p1 σ) fun r2 σ1 =>
  zlt (zsg σ1 46 r2) fun σ3 =>
  zin p1 12 (zbd (f_M_townOf (σ3.2 4 p1.toNatClampNeg) σ3) fun r5 σ4 =>
  zlt (zsg σ4 47 r5) fun σ6 =>
  zlt (zsg σ6 48 40) fun σ7 =>
  zlt (zsg σ7 49 (-1)) fun σ8 =>
  zlt (zsg σ8 50 40) fun σ9 =>
  zlt (zsg σ9 51 (-1)) fun σ10 =>
  zin p1 12 ((if (σ10.2 3 p1.toNatClampNeg) = 5 then
  zbd (f_M_spans (σ10.1 7) σ10) fun _ σ11 =>
  f_M_looks_63 p1 σ11
  else
  f_M_looks_63 p1 σ10)))
set_option maxRecDepth 4000 in
theorem m_M_looks {l : Launch} {d : zD} {h : Nat → Nat} {out : Int32 × zS} {σ : zS} {p1 : Int32} (hf : f_M_looks p1 σ = some out) : zM l yX11_looks cX11_looks 3 none 6 140 d [.ref (h 0), .int p1] (MW d h σ) (MW d h out.2) none := by
  refine zM_of [some (.ref (h 0)), some (.int p1), none] (by decide +kernel) rfl (Nat.le_of_ble_eq_true rfl) (fun F C T => ?_)
  unfold f_M_looks at hf
  refine zr_aload_n 0 1 C (by decide +kernel) rfl rfl ?_
  refine zr_aload_n 0 2 C (by decide +kernel) rfl rfl ?_
  refine zr_iload_n 1 3 C (by decide +kernel) rfl rfl ?_
  refine k_M_reach (idx := 266) 6 C (by decide +kernel) rfl q_1317 (zb2 rfl rfl) (Nat.le_of_ble_eq_true rfl) hf (fun r2 σ1 hf => ?_)
  refine mp_0_46 (idx := 284) 9 C (by decide +kernel) rfl q_1037 hf (fun σ3 hf => ?_)
  refine zr_aload_n 0 10 C (by decide +kernel) rfl rfl ?_
  refine zr_aload_n 0 11 C (by decide +kernel) rfl rfl ?_
  refine zr_aload_n 0 12 C (by decide +kernel) rfl rfl ?_
  refine mg_0_5 (idx := 19) 15 C (by decide +kernel) rfl q_996 ?_
  refine zr_iload_n 1 16 C (by decide +kernel) rfl rfl ?_
  refine ml_4 17 C (by decide +kernel) rfl hf (fun hf => ?_)
  refine k_M_townOf (idx := 251) 20 C (by decide +kernel) rfl q_1282 (zb2 rfl rfl) (Nat.le_of_ble_eq_true rfl) hf (fun r5 σ4 hf => ?_)
  refine mp_0_47 (idx := 287) 23 C (by decide +kernel) rfl q_1038 hf (fun σ6 hf => ?_)
  refine zr_aload_n 0 24 C (by decide +kernel) rfl rfl ?_
  refine zr_bipush (v := 40) 40 26 C (by decide +kernel) rfl rfl ?_
  refine mp_0_48 (idx := 272) 29 C (by decide +kernel) rfl q_1039 hf (fun σ7 hf => ?_)
  refine zr_aload_n 0 30 C (by decide +kernel) rfl rfl ?_
  refine zr_iconst (v := (-1)) (-1) 31 C (by decide +kernel) rfl rfl ?_
  refine mp_0_49 (idx := 275) 34 C (by decide +kernel) rfl q_1040 hf (fun σ8 hf => ?_)
  refine zr_aload_n 0 35 C (by decide +kernel) rfl rfl ?_
  refine zr_bipush (v := 40) 40 37 C (by decide +kernel) rfl rfl ?_
  refine mp_0_50 (idx := 278) 40 C (by decide +kernel) rfl q_1041 hf (fun σ9 hf => ?_)
  refine zr_aload_n 0 41 C (by decide +kernel) rfl rfl ?_
  refine zr_iconst (v := (-1)) (-1) 42 C (by decide +kernel) rfl rfl ?_
  refine mp_0_51 (idx := 281) 45 C (by decide +kernel) rfl q_1042 hf (fun σ10 hf => ?_)
  refine zr_aload_n 0 46 C (by decide +kernel) rfl rfl ?_
  refine mg_0_4 (idx := 16) 49 C (by decide +kernel) rfl q_995 ?_
  refine zr_iload_n 1 50 C (by decide +kernel) rfl rfl ?_
  refine ml_3 51 C (by decide +kernel) rfl hf (fun hf => ?_)
  refine zr_iconst (v := 5) 5 52 C (by decide +kernel) rfl rfl ?_
  refine zr_icmp_ne (off := 11) 63 55 C (by decide +kernel) (by decide) rfl hf (fun hf => ?_) (fun hf => ?_)
  · exact w_M_looks_63 C T _ _ hf
  · refine zr_aload_n 0 56 C (by decide +kernel) rfl rfl ?_
    refine zr_aload_n 0 57 C (by decide +kernel) rfl rfl ?_
    refine mg_0_7 (idx := 260) 60 C (by decide +kernel) rfl q_998 ?_
    refine k_M_spans (idx := 290) 63 C (by decide +kernel) rfl q_1333 (zb2 rfl rfl) (Nat.le_of_ble_eq_true rfl) hf (fun _ σ11 hf => ?_)
    exact w_M_looks_63 C T _ _ hf
theorem y_M_looks : zY yX11_looks cX11_looks 3 none 1 := ⟨q_1332, q_90, by decide +kernel, by decide +kernel, by decide +kernel⟩
theorem k_M_looks {l : Launch} {d : zD} {F : zF} {h : Nat → Nat} {σ : zS} {lv : List (Option Value)} {pc : Nat} {own : String} {cc : ByteArray} {nL fr lo idx : Nat} {rest : List Value} {β : Type} {kf : Int32 → zS → Option β} {o2 : β}  {p1 : Int32} (pc' : Nat) (C : zOk d F own cc nL fr lo) (hd : decode cc pc = .ok (.invokevirtual idx, 3)) (hp : pc + 3 = pc') (hq : Cond.methodLink own idx yX11_looks ∈ zW) (hm : 6 + 1 ≤ fr ∧ 8 + (3 + 11) + 140 ≤ lo) (hr : (rest.map fun v => v.category).sum ≤ 8) (hf : zbd (f_M_looks p1 σ) kf = some o2) (K : ∀ (r : Int32) (σ' : zS), kf r σ' = some o2 → V l d F 0 0 (MW d h σ') lv pc' (rest)) : V l d F 0 0 (MW d h σ) lv pc (.int p1 :: .ref (h 0) :: rest) := by
  obtain ⟨q, h1, h2⟩ := zbd_some hf
  exact zr_callV y_M_looks ⟨q_1331, q_57⟩ 0 rfl rfl (As := [.int p1]) (m_M_looks h1) rfl rfl pc' C hd hp hq hm hr (K _ _ h2)
/-! StepsBeyondModel.isBox(II)Z -/
def f_M_isBox (p1 : Int32) (p2 : Int32) (σ : zS) : Option (Int32 × zS) :=
  zbd (f_M_in (zrem p1 40) ((σ.1 48) - p2) ((σ.1 49) + p2) σ) fun r2 σ1 =>
  (if r2 = 0 then
  some (0, σ1)
  else
  zbd (f_M_in (p1 / 40) ((σ1.1 50) - p2) ((σ1.1 51) + p2) σ1) fun r4 σ3 =>
  (if r4 = 0 then
  some (0, σ3)
  else
  some (1, σ3)))
set_option maxRecDepth 4000 in
theorem m_M_isBox {l : Launch} {d : zD} {h : Nat → Nat} {out : Int32 × zS} {σ : zS} {p1 : Int32} {p2 : Int32} (hf : f_M_isBox p1 p2 σ = some out) : zM l yX11_isBox cX11_isBox 3 (some .boolean) 1 22 d [.ref (h 0), .int p1, .int p2] (MW d h σ) (MW d h out.2) (some (.int out.1)) := by
  refine zM_of [some (.ref (h 0)), some (.int p1), some (.int p2)] (by decide +kernel) rfl (Nat.le_of_ble_eq_true rfl) (fun F C T => ?_)
  unfold f_M_isBox at hf
  refine zr_iload_n 1 1 C (by decide +kernel) rfl rfl ?_
  refine zr_bipush (v := 40) 40 3 C (by decide +kernel) rfl rfl ?_
  refine zr_irem 4 C (by decide +kernel) rfl (by decide) ?_
  refine zr_aload_n 0 5 C (by decide +kernel) rfl rfl ?_
  refine mg_0_48 (idx := 272) 8 C (by decide +kernel) rfl q_1039 ?_
  refine zr_iload_n 2 9 C (by decide +kernel) rfl rfl ?_
  refine zr_isub 10 C (by decide +kernel) rfl ?_
  refine zr_aload_n 0 11 C (by decide +kernel) rfl rfl ?_
  refine mg_0_49 (idx := 275) 14 C (by decide +kernel) rfl q_1040 ?_
  refine zr_iload_n 2 15 C (by decide +kernel) rfl rfl ?_
  refine zr_iadd 16 C (by decide +kernel) rfl ?_
  refine k_M_in (idx := 139) 19 C (by decide +kernel) rfl q_1181 (zb2 rfl rfl) (Nat.le_of_ble_eq_true rfl) hf (fun r2 σ1 hf => ?_)
  refine zr_if_eq (off := 29) 48 22 C (by decide +kernel) (by decide) rfl hf (fun hf => ?_) (fun hf => ?_)
  · refine zr_iconst (v := 0) 0 49 C (by decide +kernel) rfl rfl ?_
    obtain rfl := Option.some.inj hf
    exact zr_zret C (by decide +kernel) rfl T
  · refine zr_iload_n 1 23 C (by decide +kernel) rfl rfl ?_
    refine zr_bipush (v := 40) 40 25 C (by decide +kernel) rfl rfl ?_
    refine zr_idiv 26 C (by decide +kernel) rfl (by decide) ?_
    refine zr_aload_n 0 27 C (by decide +kernel) rfl rfl ?_
    refine mg_0_50 (idx := 278) 30 C (by decide +kernel) rfl q_1041 ?_
    refine zr_iload_n 2 31 C (by decide +kernel) rfl rfl ?_
    refine zr_isub 32 C (by decide +kernel) rfl ?_
    refine zr_aload_n 0 33 C (by decide +kernel) rfl rfl ?_
    refine mg_0_51 (idx := 281) 36 C (by decide +kernel) rfl q_1042 ?_
    refine zr_iload_n 2 37 C (by decide +kernel) rfl rfl ?_
    refine zr_iadd 38 C (by decide +kernel) rfl ?_
    refine k_M_in (idx := 139) 41 C (by decide +kernel) rfl q_1181 (zb2 rfl rfl) (Nat.le_of_ble_eq_true rfl) hf (fun r4 σ3 hf => ?_)
    refine zr_if_eq (off := 7) 48 44 C (by decide +kernel) (by decide) rfl hf (fun hf => ?_) (fun hf => ?_)
    · refine zr_iconst (v := 0) 0 49 C (by decide +kernel) rfl rfl ?_
      obtain rfl := Option.some.inj hf
      exact zr_zret C (by decide +kernel) rfl T
    · refine zr_iconst (v := 1) 1 45 C (by decide +kernel) rfl rfl ?_
      refine zr_goto (off := 4) 49 C (by decide +kernel) (by decide) ?_
      obtain rfl := Option.some.inj hf
      exact zr_zret C (by decide +kernel) rfl T
theorem y_M_isBox : zY yX11_isBox cX11_isBox 3 (some .boolean) 2 := ⟨q_1348, q_90, by decide +kernel, by decide +kernel, by decide +kernel⟩
theorem k_M_isBox {l : Launch} {d : zD} {F : zF} {h : Nat → Nat} {σ : zS} {lv : List (Option Value)} {pc : Nat} {own : String} {cc : ByteArray} {nL fr lo idx : Nat} {rest : List Value} {β : Type} {kf : Int32 → zS → Option β} {o2 : β}  {p1 : Int32} {p2 : Int32} (pc' : Nat) (C : zOk d F own cc nL fr lo) (hd : decode cc pc = .ok (.invokevirtual idx, 3)) (hp : pc + 3 = pc') (hq : Cond.methodLink own idx yX11_isBox ∈ zW) (hm : 1 + 1 ≤ fr ∧ 8 + (3 + 11) + 22 ≤ lo) (hr : (rest.map fun v => v.category).sum ≤ 8) (hf : zbd (f_M_isBox p1 p2 σ) kf = some o2) (K : ∀ (r : Int32) (σ' : zS), kf r σ' = some o2 → V l d F 0 0 (MW d h σ') lv pc' (.int r :: rest)) : V l d F 0 0 (MW d h σ) lv pc (.int p2 :: .int p1 :: .ref (h 0) :: rest) := by
  obtain ⟨q, h1, h2⟩ := zbd_some hf
  exact zr_callV y_M_isBox ⟨q_1347, q_61⟩ 0 rfl rfl (As := [.int p1, .int p2]) (m_M_isBox h1) rfl rfl pc' C hd hp hq hm hr (K _ _ h2)
/-! StepsBeyondModel.byHouses(I)Z -/
def f_M_byHouses_41 (k2 : Int32 → Int32 → zS → Option (Int32 × zS)) (x1 : Int32) (x2 : Int32) (σ : zS) : Option (Int32 × zS) :=
  k2 x1 (x2 + 1) σ
set_option maxRecDepth 4000 in
theorem w_M_byHouses_41 {l : Launch} {d : zD} {F : zF} {h : Nat → Nat} {out : Int32 × zS}  {k2 : Int32 → Int32 → zS → Option (Int32 × zS)} (C : zOk d F RX11 cX11_byHouses 3 2 41) (T : zRt d F (some .boolean) (some (.int out.1)) (MW d h out.2)) (H2 : ∀ (x1 : Int32) (x2 : Int32) (σ : zS), k2 x1 x2 σ = some out → V l d F 0 0 (MW d h σ) [some (.ref (h 0)), some (.int x1), some (.int x2)] 2 []) (x1 : Int32) (x2 : Int32) (σ : zS) (hf : f_M_byHouses_41 k2 x1 x2 σ = some out) : V l d F 0 0 (MW d h σ) [some (.ref (h 0)), some (.int x1), some (.int x2)] 41 [] := by
  unfold f_M_byHouses_41 at hf
  refine zr_iinc (j := 1) 2 [some (.ref (h 0)), some (.int x1), some (.int (x2 + 1))] 44 C (by decide +kernel) rfl rfl rfl (by decide) rfl rfl ?_
  refine zr_goto (off := -42) 2 C (by decide +kernel) (by decide) ?_
  exact H2 _ _ _ hf
def f_M_byHouses_2b (k2 : Int32 → Int32 → zS → Option (Int32 × zS)) (x1 : Int32) (x2 : Int32) (σ : zS) : Option (Int32 × zS) :=
  (if (σ.1 0) ≤ x2 then
  some (0, σ)
  else
  (if ((zshr (σ.1 47) x2) &&& 1) = 1 then
  zin x2 20 (zbd (f_M_apart x1 (σ.2 1 x2.toNatClampNeg) σ) fun r2 σ1 =>
  (if (σ1.1 46) < r2 then
  f_M_byHouses_41 k2 x1 x2 σ1
  else
  some (1, σ1)))
  else
  f_M_byHouses_41 k2 x1 x2 σ))
set_option maxRecDepth 4000 in
theorem w_M_byHouses_2b {l : Launch} {d : zD} {F : zF} {h : Nat → Nat} {out : Int32 × zS}  {k2 : Int32 → Int32 → zS → Option (Int32 × zS)} (C : zOk d F RX11 cX11_byHouses 3 2 41) (T : zRt d F (some .boolean) (some (.int out.1)) (MW d h out.2)) (H2 : ∀ (x1 : Int32) (x2 : Int32) (σ : zS), k2 x1 x2 σ = some out → V l d F 0 0 (MW d h σ) [some (.ref (h 0)), some (.int x1), some (.int x2)] 2 []) (x1 : Int32) (x2 : Int32) (σ : zS) (hf : f_M_byHouses_2b k2 x1 x2 σ = some out) : V l d F 0 0 (MW d h σ) [some (.ref (h 0)), some (.int x1), some (.int x2)] 2 [] := by
  unfold f_M_byHouses_2b at hf
  refine zr_iload_n 2 3 C (by decide +kernel) rfl rfl ?_
  refine zr_aload_n 0 4 C (by decide +kernel) rfl rfl ?_
  refine mg_0_0 (idx := 143) 7 C (by decide +kernel) rfl q_991 ?_
  refine zr_icmp_ge (off := 40) 47 10 C (by decide +kernel) (by decide) rfl hf (fun hf => ?_) (fun hf => ?_)
  · refine zr_iconst (v := 0) 0 48 C (by decide +kernel) rfl rfl ?_
    obtain rfl := Option.some.inj hf
    exact zr_zret C (by decide +kernel) rfl T
  · refine zr_aload_n 0 11 C (by decide +kernel) rfl rfl ?_
    refine mg_0_47 (idx := 287) 14 C (by decide +kernel) rfl q_1038 ?_
    refine zr_iload_n 2 15 C (by decide +kernel) rfl rfl ?_
    refine zr_ishr 16 C (by decide +kernel) rfl ?_
    refine zr_iconst (v := 1) 1 17 C (by decide +kernel) rfl rfl ?_
    refine zr_iand 18 C (by decide +kernel) rfl ?_
    refine zr_iconst (v := 1) 1 19 C (by decide +kernel) rfl rfl ?_
    refine zr_icmp_ne (off := 22) 41 22 C (by decide +kernel) (by decide) rfl hf (fun hf => ?_) (fun hf => ?_)
    · exact w_M_byHouses_41 C T H2 _ _ _ hf
    · refine zr_iload_n 1 23 C (by decide +kernel) rfl rfl ?_
      refine zr_aload_n 0 24 C (by decide +kernel) rfl rfl ?_
      refine mg_0_1 (idx := 7) 27 C (by decide +kernel) rfl q_992 ?_
      refine zr_iload_n 2 28 C (by decide +kernel) rfl rfl ?_
      refine ml_1 29 C (by decide +kernel) rfl hf (fun hf => ?_)
      refine k_M_apart (idx := 225) 32 C (by decide +kernel) rfl q_1257 (zb2 rfl rfl) (Nat.le_of_ble_eq_true rfl) hf (fun r2 σ1 hf => ?_)
      refine zr_aload_n 0 33 C (by decide +kernel) rfl rfl ?_
      refine mg_0_46 (idx := 284) 36 C (by decide +kernel) rfl q_1037 ?_
      refine zr_icmp_gt (off := 5) 41 39 C (by decide +kernel) (by decide) rfl hf (fun hf => ?_) (fun hf => ?_)
      · exact w_M_byHouses_41 C T H2 _ _ _ hf
      · refine zr_iconst (v := 1) 1 40 C (by decide +kernel) rfl rfl ?_
        obtain rfl := Option.some.inj hf
        exact zr_zret C (by decide +kernel) rfl T
def f_M_byHouses_2  : Nat → Int32 → Int32 → zS → Option (Int32 × zS)
  | 0, _, _, _ => none
  | n + 1, x1, x2,  σ => f_M_byHouses_2b (fun x1 x2 σ => f_M_byHouses_2  n x1 x2 σ) x1 x2 σ
theorem w_M_byHouses_2 {l : Launch} {d : zD} {F : zF} {h : Nat → Nat} {out : Int32 × zS}   (C : zOk d F RX11 cX11_byHouses 3 2 41) (T : zRt d F (some .boolean) (some (.int out.1)) (MW d h out.2))  : ∀ (n : Nat) (x1 : Int32) (x2 : Int32) (σ : zS), f_M_byHouses_2  n x1 x2 σ = some out → V l d F 0 0 (MW d h σ) [some (.ref (h 0)), some (.int x1), some (.int x2)] 2 [] := by
  intro n
  induction n with
  | zero =>
    intro x1 x2 σ hf
    cases hf
  | succ n ih =>
    intro x1 x2 σ hf
    exact w_M_byHouses_2b C T ih x1 x2 σ hf
def f_M_byHouses (p1 : Int32) (σ : zS) : Option (Int32 × zS) :=
  f_M_byHouses_2 zfu p1 0 σ
set_option maxRecDepth 4000 in
theorem m_M_byHouses {l : Launch} {d : zD} {h : Nat → Nat} {out : Int32 × zS} {σ : zS} {p1 : Int32} (hf : f_M_byHouses p1 σ = some out) : zM l yX11_byHouses cX11_byHouses 3 (some .boolean) 2 41 d [.ref (h 0), .int p1] (MW d h σ) (MW d h out.2) (some (.int out.1)) := by
  refine zM_of [some (.ref (h 0)), some (.int p1), none] (by decide +kernel) rfl (Nat.le_of_ble_eq_true rfl) (fun F C T => ?_)
  unfold f_M_byHouses at hf
  refine zr_iconst (v := 0) 0 1 C (by decide +kernel) rfl rfl ?_
  refine zr_istore_n 2 [some (.ref (h 0)), some (.int p1), some (.int 0)] 2 C (by decide +kernel) rfl (by decide) rfl rfl ?_
  exact w_M_byHouses_2 C T zfu _ _ _ hf
theorem y_M_byHouses : zY yX11_byHouses cX11_byHouses 3 (some .boolean) 1 := ⟨q_1344, q_90, by decide +kernel, by decide +kernel, by decide +kernel⟩
theorem k_M_byHouses {l : Launch} {d : zD} {F : zF} {h : Nat → Nat} {σ : zS} {lv : List (Option Value)} {pc : Nat} {own : String} {cc : ByteArray} {nL fr lo idx : Nat} {rest : List Value} {β : Type} {kf : Int32 → zS → Option β} {o2 : β}  {p1 : Int32} (pc' : Nat) (C : zOk d F own cc nL fr lo) (hd : decode cc pc = .ok (.invokevirtual idx, 3)) (hp : pc + 3 = pc') (hq : Cond.methodLink own idx yX11_byHouses ∈ zW) (hm : 2 + 1 ≤ fr ∧ 8 + (3 + 11) + 41 ≤ lo) (hr : (rest.map fun v => v.category).sum ≤ 8) (hf : zbd (f_M_byHouses p1 σ) kf = some o2) (K : ∀ (r : Int32) (σ' : zS), kf r σ' = some o2 → V l d F 0 0 (MW d h σ') lv pc' (.int r :: rest)) : V l d F 0 0 (MW d h σ) lv pc (.int p1 :: .ref (h 0) :: rest) := by
  obtain ⟨q, h1, h2⟩ := zbd_some hf
  exact zr_callV y_M_byHouses ⟨q_1343, q_60⟩ 0 rfl rfl (As := [.int p1]) (m_M_byHouses h1) rfl rfl pc' C hd hp hq hm hr (K _ _ h2)
/-! StepsBeyondModel.isIn(II)Z -/
def f_M_isIn_121   (σ : zS) : Option (Int32 × zS) :=
  some (1, σ)
set_option maxRecDepth 4000 in
theorem w_M_isIn_121 {l : Launch} {d : zD} {F : zF} {h : Nat → Nat} {out : Int32 × zS}   (C : zOk d F RX11 cX11_isIn 3 3 63) (T : zRt d F (some .boolean) (some (.int out.1)) (MW d h out.2))   (σ : zS) (hf : f_M_isIn_121   σ = some out) : V l d F 0 0 (MW d h σ) [none, none, none] 121 [] := by
  unfold f_M_isIn_121 at hf
  refine zr_iconst (v := 1) 1 122 C (by decide +kernel) rfl rfl ?_
  refine zr_goto (off := 4) 126 C (by decide +kernel) (by decide) ?_
  obtain rfl := Option.some.inj hf
  exact zr_zret C (by decide +kernel) rfl T
def f_M_isIn (p1 : Int32) (p2 : Int32) (σ : zS) : Option (Int32 × zS) :=
  zin p1 12 ((if (σ.2 3 p1.toNatClampNeg) = 0 then
  zbd (f_M_middle p1 σ) fun r4 σ3 =>
  zbd (f_M_apart p2 r4 σ3) fun r6 σ5 =>
  (if (σ5.1 46) < r6 then
  some (0, σ5)
  else
  some (1, σ5))
  else
  (if (σ.2 3 p1.toNatClampNeg) = 1 then
  zbd (f_M_byHouses p2 σ) fun r8 σ7 =>
  zbo r8 (some (r8, σ7))
  else
  (if (σ.2 3 p1.toNatClampNeg) = 3 then
  zbd (f_M_byHouses p2 σ) fun r10 σ9 =>
  (if r10 = 0 then
  zin p1 12 ((if (2 * (σ9.2 5 p1.toNatClampNeg)) < ((σ9.1 49) - (σ9.1 48)) then
  some (0, σ9)
  else
  zin p1 12 ((if (2 * (σ9.2 5 p1.toNatClampNeg)) < ((σ9.1 51) - (σ9.1 50)) then
  some (0, σ9)
  else
  zbd (f_M_isBox p2 0 σ9) fun r12 σ11 =>
  (if r12 = 0 then
  some (0, σ11)
  else
  f_M_isIn_121 σ11)))))
  else
  f_M_isIn_121 σ9)
  else
  zbd (f_M_isBox p2 (σ.1 46) σ) fun r2 σ1 =>
  zbo r2 (some (r2, σ1))))))
set_option maxRecDepth 4000 in
theorem m_M_isIn {l : Launch} {d : zD} {h : Nat → Nat} {out : Int32 × zS} {σ : zS} {p1 : Int32} {p2 : Int32} (hf : f_M_isIn p1 p2 σ = some out) : zM l yX11_isIn cX11_isIn 3 (some .boolean) 3 63 d [.ref (h 0), .int p1, .int p2] (MW d h σ) (MW d h out.2) (some (.int out.1)) := by
  refine zM_of [some (.ref (h 0)), some (.int p1), some (.int p2)] (by decide +kernel) rfl (Nat.le_of_ble_eq_true rfl) (fun F C T => ?_)
  unfold f_M_isIn at hf
  refine zr_aload_n 0 1 C (by decide +kernel) rfl rfl ?_
  refine mg_0_4 (idx := 16) 4 C (by decide +kernel) rfl q_995 ?_
  refine zr_iload_n 1 5 C (by decide +kernel) rfl rfl ?_
  refine ml_3 6 C (by decide +kernel) rfl hf (fun hf => ?_)
  refine zr_tcase (dflt := 121) (lw := 0) (hi := 3) (offs := #[30, 52, 121, 58]) (len := 30) (off := 30) (j := 0) 0 36 C (by decide +kernel) (by decide) (by decide) rfl (by decide) hf (fun hf => ?_) (fun hn0 hf => ?_)
  · refine zr_iload_n 2 37 C (by decide +kernel) rfl rfl ?_
    refine zr_aload_n 0 38 C (by decide +kernel) rfl rfl ?_
    refine zr_iload_n 1 39 C (by decide +kernel) rfl rfl ?_
    refine k_M_middle (idx := 269) 42 C (by decide +kernel) rfl q_1321 (zb2 rfl rfl) (Nat.le_of_ble_eq_true rfl) hf (fun r4 σ3 hf => ?_)
    refine k_M_apart (idx := 225) 45 C (by decide +kernel) rfl q_1257 (zb2 rfl rfl) (Nat.le_of_ble_eq_true rfl) hf (fun r6 σ5 hf => ?_)
    refine zr_aload_n 0 46 C (by decide +kernel) rfl rfl ?_
    refine mg_0_46 (idx := 284) 49 C (by decide +kernel) rfl q_1037 ?_
    refine zr_icmp_gt (off := 7) 56 52 C (by decide +kernel) (by decide) rfl hf (fun hf => ?_) (fun hf => ?_)
    · refine zr_iconst (v := 0) 0 57 C (by decide +kernel) rfl rfl ?_
      obtain rfl := Option.some.inj hf
      exact zr_zret C (by decide +kernel) rfl T
    · refine zr_iconst (v := 1) 1 53 C (by decide +kernel) rfl rfl ?_
      refine zr_goto (off := 4) 57 C (by decide +kernel) (by decide) ?_
      obtain rfl := Option.some.inj hf
      exact zr_zret C (by decide +kernel) rfl T
  refine zr_tcase (dflt := 121) (lw := 0) (hi := 3) (offs := #[30, 52, 121, 58]) (len := 30) (off := 52) (j := 1) 1 58 C (by decide +kernel) (by decide) (by decide) rfl (by decide) hf (fun hf => ?_) (fun hn1 hf => ?_)
  · refine zr_aload_n 0 59 C (by decide +kernel) rfl rfl ?_
    refine zr_iload_n 2 60 C (by decide +kernel) rfl rfl ?_
    refine k_M_byHouses (idx := 293) 63 C (by decide +kernel) rfl q_1341 (zb2 rfl rfl) (Nat.le_of_ble_eq_true rfl) hf (fun r8 σ7 hf => ?_)
    obtain ⟨hz, hf⟩ := zbo_some hf
    obtain rfl := Option.some.inj hf
    exact zr_zret C (by decide +kernel) hz T
  refine zr_tcase (dflt := 121) (lw := 0) (hi := 3) (offs := #[30, 52, 121, 58]) (len := 30) (off := 58) (j := 3) 3 64 C (by decide +kernel) (by decide) (by decide) rfl (by decide) hf (fun hf => ?_) (fun hn3 hf => ?_)
  · refine zr_aload_n 0 65 C (by decide +kernel) rfl rfl ?_
    refine zr_iload_n 2 66 C (by decide +kernel) rfl rfl ?_
    refine k_M_byHouses (idx := 293) 69 C (by decide +kernel) rfl q_1341 (zb2 rfl rfl) (Nat.le_of_ble_eq_true rfl) hf (fun r10 σ9 hf => ?_)
    refine zr_if_ne (off := 52) 121 72 C (by decide +kernel) (by decide) rfl hf (fun hf => ?_) (fun hf => ?_)
    · refine zr_less (zN (zN (zN zE))) ?_
      exact w_M_isIn_121 C T _ hf
    · refine zr_aload_n 0 73 C (by decide +kernel) rfl rfl ?_
      refine mg_0_49 (idx := 275) 76 C (by decide +kernel) rfl q_1040 ?_
      refine zr_aload_n 0 77 C (by decide +kernel) rfl rfl ?_
      refine mg_0_48 (idx := 272) 80 C (by decide +kernel) rfl q_1039 ?_
      refine zr_isub 81 C (by decide +kernel) rfl ?_
      refine zr_iconst (v := 2) 2 82 C (by decide +kernel) rfl rfl ?_
      refine zr_aload_n 0 83 C (by decide +kernel) rfl rfl ?_
      refine mg_0_6 (idx := 22) 86 C (by decide +kernel) rfl q_997 ?_
      refine zr_iload_n 1 87 C (by decide +kernel) rfl rfl ?_
      refine ml_5 88 C (by decide +kernel) rfl hf (fun hf => ?_)
      refine zr_imul 89 C (by decide +kernel) rfl ?_
      refine zr_icmp_gt (off := 36) 125 92 C (by decide +kernel) (by decide) rfl hf (fun hf => ?_) (fun hf => ?_)
      · refine zr_iconst (v := 0) 0 126 C (by decide +kernel) rfl rfl ?_
        obtain rfl := Option.some.inj hf
        exact zr_zret C (by decide +kernel) rfl T
      · refine zr_aload_n 0 93 C (by decide +kernel) rfl rfl ?_
        refine mg_0_51 (idx := 281) 96 C (by decide +kernel) rfl q_1042 ?_
        refine zr_aload_n 0 97 C (by decide +kernel) rfl rfl ?_
        refine mg_0_50 (idx := 278) 100 C (by decide +kernel) rfl q_1041 ?_
        refine zr_isub 101 C (by decide +kernel) rfl ?_
        refine zr_iconst (v := 2) 2 102 C (by decide +kernel) rfl rfl ?_
        refine zr_aload_n 0 103 C (by decide +kernel) rfl rfl ?_
        refine mg_0_6 (idx := 22) 106 C (by decide +kernel) rfl q_997 ?_
        refine zr_iload_n 1 107 C (by decide +kernel) rfl rfl ?_
        refine ml_5 108 C (by decide +kernel) rfl hf (fun hf => ?_)
        refine zr_imul 109 C (by decide +kernel) rfl ?_
        refine zr_icmp_gt (off := 16) 125 112 C (by decide +kernel) (by decide) rfl hf (fun hf => ?_) (fun hf => ?_)
        · refine zr_iconst (v := 0) 0 126 C (by decide +kernel) rfl rfl ?_
          obtain rfl := Option.some.inj hf
          exact zr_zret C (by decide +kernel) rfl T
        · refine zr_aload_n 0 113 C (by decide +kernel) rfl rfl ?_
          refine zr_iload_n 2 114 C (by decide +kernel) rfl rfl ?_
          refine zr_iconst (v := 0) 0 115 C (by decide +kernel) rfl rfl ?_
          refine k_M_isBox (idx := 296) 118 C (by decide +kernel) rfl q_1345 (zb2 rfl rfl) (Nat.le_of_ble_eq_true rfl) hf (fun r12 σ11 hf => ?_)
          refine zr_if_eq (off := 7) 125 121 C (by decide +kernel) (by decide) rfl hf (fun hf => ?_) (fun hf => ?_)
          · refine zr_iconst (v := 0) 0 126 C (by decide +kernel) rfl rfl ?_
            obtain rfl := Option.some.inj hf
            exact zr_zret C (by decide +kernel) rfl T
          · refine zr_less (zN (zN (zN zE))) ?_
            exact w_M_isIn_121 C T _ hf
  refine zr_tdflt (dflt := 121) (lw := 0) (hi := 3) (offs := #[30, 52, 121, 58]) (len := 30) 127 C (by decide +kernel) (by decide) (by decide) (fun j hj hx => ?_) ?_
  · rcases (show j = 0 ∨ j = 1 ∨ j = 2 ∨ j = 3 by have hj2 : j < 4 := hj; omega) with rfl | rfl | rfl | rfl
    · exact absurd (z_ti (c := 0) (by decide) hx) hn0
    · exact absurd (z_ti (c := 1) (by decide) hx) hn1
    · rfl
    · exact absurd (z_ti (c := 3) (by decide) hx) hn3
  refine zr_aload_n 0 128 C (by decide +kernel) rfl rfl ?_
  refine zr_iload_n 2 129 C (by decide +kernel) rfl rfl ?_
  refine zr_aload_n 0 130 C (by decide +kernel) rfl rfl ?_
  refine mg_0_46 (idx := 284) 133 C (by decide +kernel) rfl q_1037 ?_
  refine k_M_isBox (idx := 296) 136 C (by decide +kernel) rfl q_1345 (zb2 rfl rfl) (Nat.le_of_ble_eq_true rfl) hf (fun r2 σ1 hf => ?_)
  obtain ⟨hz, hf⟩ := zbo_some hf
  obtain rfl := Option.some.inj hf
  exact zr_zret C (by decide +kernel) hz T
theorem y_M_isIn : zY yX11_isIn cX11_isIn 3 (some .boolean) 2 := ⟨q_1340, q_90, by decide +kernel, by decide +kernel, by decide +kernel⟩
theorem k_M_isIn {l : Launch} {d : zD} {F : zF} {h : Nat → Nat} {σ : zS} {lv : List (Option Value)} {pc : Nat} {own : String} {cc : ByteArray} {nL fr lo idx : Nat} {rest : List Value} {β : Type} {kf : Int32 → zS → Option β} {o2 : β}  {p1 : Int32} {p2 : Int32} (pc' : Nat) (C : zOk d F own cc nL fr lo) (hd : decode cc pc = .ok (.invokevirtual idx, 3)) (hp : pc + 3 = pc') (hq : Cond.methodLink own idx yX11_isIn ∈ zW) (hm : 3 + 1 ≤ fr ∧ 8 + (3 + 11) + 63 ≤ lo) (hr : (rest.map fun v => v.category).sum ≤ 8) (hf : zbd (f_M_isIn p1 p2 σ) kf = some o2) (K : ∀ (r : Int32) (σ' : zS), kf r σ' = some o2 → V l d F 0 0 (MW d h σ') lv pc' (.int r :: rest)) : V l d F 0 0 (MW d h σ) lv pc (.int p2 :: .int p1 :: .ref (h 0) :: rest) := by
  obtain ⟨q, h1, h2⟩ := zbd_some hf
  exact zr_callV y_M_isIn ⟨q_1339, q_59⟩ 0 rfl rfl (As := [.int p1, .int p2]) (m_M_isIn h1) rfl rfl pc' C hd hp hq hm hr (K _ _ h2)
/-! StepsBeyondModel.within(II)I -/
def f_M_within (p1 : Int32) (p2 : Int32) (σ : zS) : Option (Int32 × zS) :=
  zbd (f_M_isShape p1 σ) fun r2 σ1 =>
  (if r2 = 0 then
  some (-1, σ1)
  else
  zbd (f_M_isPlace p2 σ1) fun r4 σ3 =>
  (if r4 = 0 then
  some (-2, σ3)
  else
  zbd (f_M_looks p1 σ3) fun _ σ5 =>
  zbd (f_M_isIn p1 p2 σ5) fun r7 σ6 =>
  (if r7 = 0 then
  some (0, σ6)
  else
  some (1, σ6))))
set_option maxRecDepth 4000 in
theorem m_M_within {l : Launch} {d : zD} {h : Nat → Nat} {out : Int32 × zS} {σ : zS} {p1 : Int32} {p2 : Int32} (hf : f_M_within p1 p2 σ = some out) : zM l yX11_within cX11_within 3 (some .int) 7 162 d [.ref (h 0), .int p1, .int p2] (MW d h σ) (MW d h out.2) (some (.int out.1)) := by
  refine zM_of [some (.ref (h 0)), some (.int p1), some (.int p2)] (by decide +kernel) rfl (Nat.le_of_ble_eq_true rfl) (fun F C T => ?_)
  unfold f_M_within at hf
  refine zr_aload_n 0 1 C (by decide +kernel) rfl rfl ?_
  refine zr_iload_n 1 2 C (by decide +kernel) rfl rfl ?_
  refine k_M_isShape (idx := 263) 5 C (by decide +kernel) rfl q_1313 (zb2 rfl rfl) (Nat.le_of_ble_eq_true rfl) hf (fun r2 σ1 hf => ?_)
  refine zr_if_ne (off := 5) 10 8 C (by decide +kernel) (by decide) rfl hf (fun hf => ?_) (fun hf => ?_)
  · refine zr_iload_n 2 11 C (by decide +kernel) rfl rfl ?_
    refine k_M_isPlace (idx := 150) 14 C (by decide +kernel) rfl q_1178 (zb2 rfl rfl) (Nat.le_of_ble_eq_true rfl) hf (fun r4 σ3 hf => ?_)
    refine zr_if_ne (off := 6) 20 17 C (by decide +kernel) (by decide) rfl hf (fun hf => ?_) (fun hf => ?_)
    · refine zr_aload_n 0 21 C (by decide +kernel) rfl rfl ?_
      refine zr_iload_n 1 22 C (by decide +kernel) rfl rfl ?_
      refine k_M_looks (idx := 299) 25 C (by decide +kernel) rfl q_1329 (zb2 rfl rfl) (Nat.le_of_ble_eq_true rfl) hf (fun _ σ5 hf => ?_)
      refine zr_aload_n 0 26 C (by decide +kernel) rfl rfl ?_
      refine zr_iload_n 1 27 C (by decide +kernel) rfl rfl ?_
      refine zr_iload_n 2 28 C (by decide +kernel) rfl rfl ?_
      refine k_M_isIn (idx := 302) 31 C (by decide +kernel) rfl q_1337 (zb2 rfl rfl) (Nat.le_of_ble_eq_true rfl) hf (fun r7 σ6 hf => ?_)
      refine zr_if_eq (off := 7) 38 34 C (by decide +kernel) (by decide) rfl hf (fun hf => ?_) (fun hf => ?_)
      · refine zr_iconst (v := 0) 0 39 C (by decide +kernel) rfl rfl ?_
        obtain rfl := Option.some.inj hf
        exact zr_iret C (by decide +kernel) T
      · refine zr_iconst (v := 1) 1 35 C (by decide +kernel) rfl rfl ?_
        refine zr_goto (off := 4) 39 C (by decide +kernel) (by decide) ?_
        obtain rfl := Option.some.inj hf
        exact zr_iret C (by decide +kernel) T
    · refine zr_bipush (v := (-2)) (-2) 19 C (by decide +kernel) rfl rfl ?_
      obtain rfl := Option.some.inj hf
      exact zr_iret C (by decide +kernel) T
  · refine zr_iconst (v := (-1)) (-1) 9 C (by decide +kernel) rfl rfl ?_
    obtain rfl := Option.some.inj hf
    exact zr_iret C (by decide +kernel) T
theorem y_M_within : zY yX11_within cX11_within 3 (some .int) 2 := ⟨q_1328, q_90, by decide +kernel, by decide +kernel, by decide +kernel⟩
theorem k_M_within {l : Launch} {d : zD} {F : zF} {h : Nat → Nat} {σ : zS} {lv : List (Option Value)} {pc : Nat} {own : String} {cc : ByteArray} {nL fr lo idx : Nat} {rest : List Value} {β : Type} {kf : Int32 → zS → Option β} {o2 : β}  {p1 : Int32} {p2 : Int32} (pc' : Nat) (C : zOk d F own cc nL fr lo) (hd : decode cc pc = .ok (.invokevirtual idx, 3)) (hp : pc + 3 = pc') (hq : Cond.methodLink own idx yX11_within ∈ zW) (hm : 7 + 1 ≤ fr ∧ 8 + (3 + 11) + 162 ≤ lo) (hr : (rest.map fun v => v.category).sum ≤ 8) (hf : zbd (f_M_within p1 p2 σ) kf = some o2) (K : ∀ (r : Int32) (σ' : zS), kf r σ' = some o2 → V l d F 0 0 (MW d h σ') lv pc' (.int r :: rest)) : V l d F 0 0 (MW d h σ) lv pc (.int p2 :: .int p1 :: .ref (h 0) :: rest) := by
  obtain ⟨q, h1, h2⟩ := zbd_some hf
  exact zr_callV y_M_within ⟨q_1326, q_1327⟩ 0 rfl rfl (As := [.int p1, .int p2]) (m_M_within h1) rfl rfl pc' C hd hp hq hm hr (K _ _ h2)
/-! StepsBeyondModel.marksOne(I)I -/
def f_M_marksOne_43 (k9 : Int32 → Int32 → Int32 → zS → Option (Int32 × zS)) (x1 : Int32) (x3 : Int32) (y0 : Int32) (y1 : Int32) (σ : zS) : Option (Int32 × zS) :=
  zlt (y0 + y1) fun v1 => 
  k9 x1 v1 (x3 + 1) σ
set_option maxRecDepth 4000 in
theorem w_M_marksOne_43 {l : Launch} {d : zD} {F : zF} {h : Nat → Nat} {out : Int32 × zS}  {k9 : Int32 → Int32 → Int32 → zS → Option (Int32 × zS)} (C : zOk d F RX11 cX11_marksOne 4 7 162) (T : zRt d F (some .int) (some (.int out.1)) (MW d h out.2)) (H9 : ∀ (x1 : Int32) (x2 : Int32) (x3 : Int32) (σ : zS), k9 x1 x2 x3 σ = some out → V l d F 0 0 (MW d h σ) [some (.ref (h 0)), some (.int x1), some (.int x2), some (.int x3)] 9 []) (x1 : Int32) (x3 : Int32) (y0 : Int32) (y1 : Int32) (σ : zS) (hf : f_M_marksOne_43 k9 x1 x3 y0 y1 σ = some out) : V l d F 0 0 (MW d h σ) [some (.ref (h 0)), some (.int x1), none, some (.int x3)] 43 [.int y1, .int y0] := by
  unfold f_M_marksOne_43 at hf
  refine zr_iadd 44 C (by decide +kernel) rfl ?_
  refine zr_name hf (fun v1 hf => ?_)
  refine zr_istore_n 2 [some (.ref (h 0)), some (.int x1), some (.int v1), some (.int x3)] 45 C (by decide +kernel) rfl (by decide) rfl rfl ?_
  refine zr_iinc (j := 1) 3 [some (.ref (h 0)), some (.int x1), some (.int v1), some (.int (x3 + 1))] 48 C (by decide +kernel) rfl rfl rfl (by decide) rfl rfl ?_
  refine zr_goto (off := -39) 9 C (by decide +kernel) (by decide) ?_
  exact H9 _ _ _ _ hf
def f_M_marksOne_9b (k9 : Int32 → Int32 → Int32 → zS → Option (Int32 × zS)) (x1 : Int32) (x2 : Int32) (x3 : Int32) (σ : zS) : Option (Int32 × zS) :=
  (if 1600 ≤ x3 then
  some (x2, σ)
  else
  zbd (f_M_isIn x1 x3 σ) fun r2 σ1 =>
  zin x3 1600 (zlt (zsa σ1 26 x3 (vp_nar .boolean r2)) fun σ3 =>
  zin x3 1600 ((if (σ3.2 26 x3.toNatClampNeg) = 0 then
  f_M_marksOne_43 k9 x1 x3 x2 0 σ3
  else
  f_M_marksOne_43 k9 x1 x3 x2 1 σ3))))
set_option maxRecDepth 4000 in
theorem w_M_marksOne_9b {l : Launch} {d : zD} {F : zF} {h : Nat → Nat} {out : Int32 × zS}  {k9 : Int32 → Int32 → Int32 → zS → Option (Int32 × zS)} (C : zOk d F RX11 cX11_marksOne 4 7 162) (T : zRt d F (some .int) (some (.int out.1)) (MW d h out.2)) (H9 : ∀ (x1 : Int32) (x2 : Int32) (x3 : Int32) (σ : zS), k9 x1 x2 x3 σ = some out → V l d F 0 0 (MW d h σ) [some (.ref (h 0)), some (.int x1), some (.int x2), some (.int x3)] 9 []) (x1 : Int32) (x2 : Int32) (x3 : Int32) (σ : zS) (hf : f_M_marksOne_9b k9 x1 x2 x3 σ = some out) : V l d F 0 0 (MW d h σ) [some (.ref (h 0)), some (.int x1), some (.int x2), some (.int x3)] 9 [] := by
  unfold f_M_marksOne_9b at hf
  refine zr_iload_n 3 10 C (by decide +kernel) rfl rfl ?_
  refine zr_sipush (v := 1600) 1600 13 C (by decide +kernel) rfl rfl ?_
  refine zr_icmp_ge (off := 38) 51 16 C (by decide +kernel) (by decide) rfl hf (fun hf => ?_) (fun hf => ?_)
  · refine zr_iload_n 2 52 C (by decide +kernel) rfl rfl ?_
    obtain rfl := Option.some.inj hf
    exact zr_iret C (by decide +kernel) T
  · refine zr_aload_n 0 17 C (by decide +kernel) rfl rfl ?_
    refine mg_0_52 (idx := 112) 20 C (by decide +kernel) rfl q_1043 ?_
    refine zr_iload_n 3 21 C (by decide +kernel) rfl rfl ?_
    refine zr_aload_n 0 22 C (by decide +kernel) rfl rfl ?_
    refine zr_iload_n 1 23 C (by decide +kernel) rfl rfl ?_
    refine zr_iload_n 3 24 C (by decide +kernel) rfl rfl ?_
    refine k_M_isIn (idx := 302) 27 C (by decide +kernel) rfl q_1337 (zb2 rfl rfl) (Nat.le_of_ble_eq_true rfl) hf (fun r2 σ1 hf => ?_)
    refine ms_26 28 C (by decide +kernel) rfl hf (fun σ3 hf => ?_)
    refine zr_iload_n 2 29 C (by decide +kernel) rfl rfl ?_
    refine zr_aload_n 0 30 C (by decide +kernel) rfl rfl ?_
    refine mg_0_52 (idx := 112) 33 C (by decide +kernel) rfl q_1043 ?_
    refine zr_iload_n 3 34 C (by decide +kernel) rfl rfl ?_
    refine ml_26 35 C (by decide +kernel) rfl hf (fun hf => ?_)
    refine zr_if_eq (off := 7) 42 38 C (by decide +kernel) (by decide) rfl hf (fun hf => ?_) (fun hf => ?_)
    · refine zr_iconst (v := 0) 0 43 C (by decide +kernel) rfl rfl ?_
      refine zr_less (zA (zA (zN (zA zE)))) ?_
      exact w_M_marksOne_43 C T H9 _ _ _ _ _ hf
    · refine zr_iconst (v := 1) 1 39 C (by decide +kernel) rfl rfl ?_
      refine zr_goto (off := 4) 43 C (by decide +kernel) (by decide) ?_
      refine zr_less (zA (zA (zN (zA zE)))) ?_
      exact w_M_marksOne_43 C T H9 _ _ _ _ _ hf
def f_M_marksOne_9  : Nat → Int32 → Int32 → Int32 → zS → Option (Int32 × zS)
  | 0, _, _, _, _ => none
  | n + 1, x1, x2, x3,  σ => f_M_marksOne_9b (fun x1 x2 x3 σ => f_M_marksOne_9  n x1 x2 x3 σ) x1 x2 x3 σ
theorem w_M_marksOne_9 {l : Launch} {d : zD} {F : zF} {h : Nat → Nat} {out : Int32 × zS}   (C : zOk d F RX11 cX11_marksOne 4 7 162) (T : zRt d F (some .int) (some (.int out.1)) (MW d h out.2))  : ∀ (n : Nat) (x1 : Int32) (x2 : Int32) (x3 : Int32) (σ : zS), f_M_marksOne_9  n x1 x2 x3 σ = some out → V l d F 0 0 (MW d h σ) [some (.ref (h 0)), some (.int x1), some (.int x2), some (.int x3)] 9 [] := by
  intro n
  induction n with
  | zero =>
    intro x1 x2 x3 σ hf
    cases hf
  | succ n ih =>
    intro x1 x2 x3 σ hf
    exact w_M_marksOne_9b C T ih x1 x2 x3 σ hf
def f_M_marksOne (p1 : Int32) (σ : zS) : Option (Int32 × zS) :=
  zbd (f_M_looks p1 σ) fun _ σ1 =>
  f_M_marksOne_9 zfu p1 0 0 σ1
set_option maxRecDepth 4000 in
theorem m_M_marksOne {l : Launch} {d : zD} {h : Nat → Nat} {out : Int32 × zS} {σ : zS} {p1 : Int32} (hf : f_M_marksOne p1 σ = some out) : zM l yX11_marksOne cX11_marksOne 4 (some .int) 7 162 d [.ref (h 0), .int p1] (MW d h σ) (MW d h out.2) (some (.int out.1)) := by
  refine zM_of [some (.ref (h 0)), some (.int p1), none, none] (by decide +kernel) rfl (Nat.le_of_ble_eq_true rfl) (fun F C T => ?_)
  unfold f_M_marksOne at hf
  refine zr_aload_n 0 1 C (by decide +kernel) rfl rfl ?_
  refine zr_iload_n 1 2 C (by decide +kernel) rfl rfl ?_
  refine k_M_looks (idx := 299) 5 C (by decide +kernel) rfl q_1329 (zb2 rfl rfl) (Nat.le_of_ble_eq_true rfl) hf (fun _ σ1 hf => ?_)
  refine zr_iconst (v := 0) 0 6 C (by decide +kernel) rfl rfl ?_
  refine zr_istore_n 2 [some (.ref (h 0)), some (.int p1), some (.int 0), none] 7 C (by decide +kernel) rfl (by decide) rfl rfl ?_
  refine zr_iconst (v := 0) 0 8 C (by decide +kernel) rfl rfl ?_
  refine zr_istore_n 3 [some (.ref (h 0)), some (.int p1), some (.int 0), some (.int 0)] 9 C (by decide +kernel) rfl (by decide) rfl rfl ?_
  exact w_M_marksOne_9 C T zfu _ _ _ _ hf
theorem y_M_marksOne : zY yX11_marksOne cX11_marksOne 4 (some .int) 1 := ⟨q_1356, q_90, by decide +kernel, by decide +kernel, by decide +kernel⟩
theorem k_M_marksOne {l : Launch} {d : zD} {F : zF} {h : Nat → Nat} {σ : zS} {lv : List (Option Value)} {pc : Nat} {own : String} {cc : ByteArray} {nL fr lo idx : Nat} {rest : List Value} {β : Type} {kf : Int32 → zS → Option β} {o2 : β}  {p1 : Int32} (pc' : Nat) (C : zOk d F own cc nL fr lo) (hd : decode cc pc = .ok (.invokevirtual idx, 3)) (hp : pc + 3 = pc') (hq : Cond.methodLink own idx yX11_marksOne ∈ zW) (hm : 7 + 1 ≤ fr ∧ 8 + (4 + 11) + 162 ≤ lo) (hr : (rest.map fun v => v.category).sum ≤ 8) (hf : zbd (f_M_marksOne p1 σ) kf = some o2) (K : ∀ (r : Int32) (σ' : zS), kf r σ' = some o2 → V l d F 0 0 (MW d h σ') lv pc' (.int r :: rest)) : V l d F 0 0 (MW d h σ) lv pc (.int p1 :: .ref (h 0) :: rest) := by
  obtain ⟨q, h1, h2⟩ := zbd_some hf
  exact zr_callV y_M_marksOne ⟨q_1355, q_62⟩ 0 rfl rfl (As := [.int p1]) (m_M_marksOne h1) rfl rfl pc' C hd hp hq hm hr (K _ _ h2)
/-! StepsBeyondModel.marksOther(I)V -/
def f_M_marksOther_7b (k7 : Int32 → Int32 → zS → Option (Int32 × zS)) (x1 : Int32) (x2 : Int32) (σ : zS) : Option (Int32 × zS) :=
  (if 1600 ≤ x2 then
  some (0, σ)
  else
  zbd (f_M_isIn x1 x2 σ) fun r2 σ1 =>
  zin x2 1600 (zlt (zsa σ1 27 x2 (vp_nar .boolean r2)) fun σ3 =>
  k7 x1 (x2 + 1) σ3))
set_option maxRecDepth 4000 in
theorem w_M_marksOther_7b {l : Launch} {d : zD} {F : zF} {h : Nat → Nat} {out : Int32 × zS}  {k7 : Int32 → Int32 → zS → Option (Int32 × zS)} (C : zOk d F RX11 cX11_marksOther 3 7 162) (T : zRt d F none none (MW d h out.2)) (H7 : ∀ (x1 : Int32) (x2 : Int32) (σ : zS), k7 x1 x2 σ = some out → V l d F 0 0 (MW d h σ) [some (.ref (h 0)), some (.int x1), some (.int x2)] 7 []) (x1 : Int32) (x2 : Int32) (σ : zS) (hf : f_M_marksOther_7b k7 x1 x2 σ = some out) : V l d F 0 0 (MW d h σ) [some (.ref (h 0)), some (.int x1), some (.int x2)] 7 [] := by
  unfold f_M_marksOther_7b at hf
  refine zr_iload_n 2 8 C (by decide +kernel) rfl rfl ?_
  refine zr_sipush (v := 1600) 1600 11 C (by decide +kernel) rfl rfl ?_
  refine zr_icmp_ge (off := 21) 32 14 C (by decide +kernel) (by decide) rfl hf (fun hf => ?_) (fun hf => ?_)
  · obtain rfl := Option.some.inj hf
    exact zr_vret C (by decide +kernel) T
  · refine zr_aload_n 0 15 C (by decide +kernel) rfl rfl ?_
    refine mg_0_53 (idx := 116) 18 C (by decide +kernel) rfl q_1044 ?_
    refine zr_iload_n 2 19 C (by decide +kernel) rfl rfl ?_
    refine zr_aload_n 0 20 C (by decide +kernel) rfl rfl ?_
    refine zr_iload_n 1 21 C (by decide +kernel) rfl rfl ?_
    refine zr_iload_n 2 22 C (by decide +kernel) rfl rfl ?_
    refine k_M_isIn (idx := 302) 25 C (by decide +kernel) rfl q_1337 (zb2 rfl rfl) (Nat.le_of_ble_eq_true rfl) hf (fun r2 σ1 hf => ?_)
    refine ms_27 26 C (by decide +kernel) rfl hf (fun σ3 hf => ?_)
    refine zr_iinc (j := 1) 2 [some (.ref (h 0)), some (.int x1), some (.int (x2 + 1))] 29 C (by decide +kernel) rfl rfl rfl (by decide) rfl rfl ?_
    refine zr_goto (off := -22) 7 C (by decide +kernel) (by decide) ?_
    exact H7 _ _ _ hf
def f_M_marksOther_7  : Nat → Int32 → Int32 → zS → Option (Int32 × zS)
  | 0, _, _, _ => none
  | n + 1, x1, x2,  σ => f_M_marksOther_7b (fun x1 x2 σ => f_M_marksOther_7  n x1 x2 σ) x1 x2 σ
theorem w_M_marksOther_7 {l : Launch} {d : zD} {F : zF} {h : Nat → Nat} {out : Int32 × zS}   (C : zOk d F RX11 cX11_marksOther 3 7 162) (T : zRt d F none none (MW d h out.2))  : ∀ (n : Nat) (x1 : Int32) (x2 : Int32) (σ : zS), f_M_marksOther_7  n x1 x2 σ = some out → V l d F 0 0 (MW d h σ) [some (.ref (h 0)), some (.int x1), some (.int x2)] 7 [] := by
  intro n
  induction n with
  | zero =>
    intro x1 x2 σ hf
    cases hf
  | succ n ih =>
    intro x1 x2 σ hf
    exact w_M_marksOther_7b C T ih x1 x2 σ hf
def f_M_marksOther (p1 : Int32) (σ : zS) : Option (Int32 × zS) :=
  zbd (f_M_looks p1 σ) fun _ σ1 =>
  f_M_marksOther_7 zfu p1 0 σ1
set_option maxRecDepth 4000 in
theorem m_M_marksOther {l : Launch} {d : zD} {h : Nat → Nat} {out : Int32 × zS} {σ : zS} {p1 : Int32} (hf : f_M_marksOther p1 σ = some out) : zM l yX11_marksOther cX11_marksOther 3 none 7 162 d [.ref (h 0), .int p1] (MW d h σ) (MW d h out.2) none := by
  refine zM_of [some (.ref (h 0)), some (.int p1), none] (by decide +kernel) rfl (Nat.le_of_ble_eq_true rfl) (fun F C T => ?_)
  unfold f_M_marksOther at hf
  refine zr_aload_n 0 1 C (by decide +kernel) rfl rfl ?_
  refine zr_iload_n 1 2 C (by decide +kernel) rfl rfl ?_
  refine k_M_looks (idx := 299) 5 C (by decide +kernel) rfl q_1329 (zb2 rfl rfl) (Nat.le_of_ble_eq_true rfl) hf (fun _ σ1 hf => ?_)
  refine zr_iconst (v := 0) 0 6 C (by decide +kernel) rfl rfl ?_
  refine zr_istore_n 2 [some (.ref (h 0)), some (.int p1), some (.int 0)] 7 C (by decide +kernel) rfl (by decide) rfl rfl ?_
  exact w_M_marksOther_7 C T zfu _ _ _ hf
theorem y_M_marksOther : zY yX11_marksOther cX11_marksOther 3 none 1 := ⟨q_1364, q_90, by decide +kernel, by decide +kernel, by decide +kernel⟩
theorem k_M_marksOther {l : Launch} {d : zD} {F : zF} {h : Nat → Nat} {σ : zS} {lv : List (Option Value)} {pc : Nat} {own : String} {cc : ByteArray} {nL fr lo idx : Nat} {rest : List Value} {β : Type} {kf : Int32 → zS → Option β} {o2 : β}  {p1 : Int32} (pc' : Nat) (C : zOk d F own cc nL fr lo) (hd : decode cc pc = .ok (.invokevirtual idx, 3)) (hp : pc + 3 = pc') (hq : Cond.methodLink own idx yX11_marksOther ∈ zW) (hm : 7 + 1 ≤ fr ∧ 8 + (3 + 11) + 162 ≤ lo) (hr : (rest.map fun v => v.category).sum ≤ 8) (hf : zbd (f_M_marksOther p1 σ) kf = some o2) (K : ∀ (r : Int32) (σ' : zS), kf r σ' = some o2 → V l d F 0 0 (MW d h σ') lv pc' (rest)) : V l d F 0 0 (MW d h σ) lv pc (.int p1 :: .ref (h 0) :: rest) := by
  obtain ⟨q, h1, h2⟩ := zbd_some hf
  exact zr_callV y_M_marksOther ⟨q_1363, q_63⟩ 0 rfl rfl (As := [.int p1]) (m_M_marksOther h1) rfl rfl pc' C hd hp hq hm hr (K _ _ h2)
/-! StepsBeyondModel.size(I)I -/
def f_M_size (p1 : Int32) (σ : zS) : Option (Int32 × zS) :=
  zbd (f_M_isShape p1 σ) fun r2 σ1 =>
  (if r2 = 0 then
  some (-1, σ1)
  else
  zbd (f_M_marksOne p1 σ1) fun r4 σ3 =>
  some (r4, σ3))
set_option maxRecDepth 4000 in
theorem m_M_size {l : Launch} {d : zD} {h : Nat → Nat} {out : Int32 × zS} {σ : zS} {p1 : Int32} (hf : f_M_size p1 σ = some out) : zM l yX11_size cX11_size 2 (some .int) 8 185 d [.ref (h 0), .int p1] (MW d h σ) (MW d h out.2) (some (.int out.1)) := by
  refine zM_of [some (.ref (h 0)), some (.int p1)] (by decide +kernel) rfl (Nat.le_of_ble_eq_true rfl) (fun F C T => ?_)
  unfold f_M_size at hf
  refine zr_aload_n 0 1 C (by decide +kernel) rfl rfl ?_
  refine zr_iload_n 1 2 C (by decide +kernel) rfl rfl ?_
  refine k_M_isShape (idx := 263) 5 C (by decide +kernel) rfl q_1313 (zb2 rfl rfl) (Nat.le_of_ble_eq_true rfl) hf (fun r2 σ1 hf => ?_)
  refine zr_if_eq (off := 11) 16 8 C (by decide +kernel) (by decide) rfl hf (fun hf => ?_) (fun hf => ?_)
  · refine zr_iconst (v := (-1)) (-1) 17 C (by decide +kernel) rfl rfl ?_
    obtain rfl := Option.some.inj hf
    exact zr_iret C (by decide +kernel) T
  · refine zr_aload_n 0 9 C (by decide +kernel) rfl rfl ?_
    refine zr_iload_n 1 10 C (by decide +kernel) rfl rfl ?_
    refine k_M_marksOne (idx := 305) 13 C (by decide +kernel) rfl q_1353 (zb2 rfl rfl) (Nat.le_of_ble_eq_true rfl) hf (fun r4 σ3 hf => ?_)
    refine zr_goto (off := 4) 17 C (by decide +kernel) (by decide) ?_
    obtain rfl := Option.some.inj hf
    exact zr_iret C (by decide +kernel) T
theorem y_M_size : zY yX11_size cX11_size 2 (some .int) 1 := ⟨q_1352, q_90, by decide +kernel, by decide +kernel, by decide +kernel⟩
theorem k_M_size {l : Launch} {d : zD} {F : zF} {h : Nat → Nat} {σ : zS} {lv : List (Option Value)} {pc : Nat} {own : String} {cc : ByteArray} {nL fr lo idx : Nat} {rest : List Value} {β : Type} {kf : Int32 → zS → Option β} {o2 : β}  {p1 : Int32} (pc' : Nat) (C : zOk d F own cc nL fr lo) (hd : decode cc pc = .ok (.invokevirtual idx, 3)) (hp : pc + 3 = pc') (hq : Cond.methodLink own idx yX11_size ∈ zW) (hm : 8 + 1 ≤ fr ∧ 8 + (2 + 11) + 185 ≤ lo) (hr : (rest.map fun v => v.category).sum ≤ 8) (hf : zbd (f_M_size p1 σ) kf = some o2) (K : ∀ (r : Int32) (σ' : zS), kf r σ' = some o2 → V l d F 0 0 (MW d h σ') lv pc' (.int r :: rest)) : V l d F 0 0 (MW d h σ) lv pc (.int p1 :: .ref (h 0) :: rest) := by
  obtain ⟨q, h1, h2⟩ := zbd_some hf
  exact zr_callV y_M_size ⟨q_1350, q_1351⟩ 0 rfl rfl (As := [.int p1]) (m_M_size h1) rfl rfl pc' C hd hp hq hm hr (K _ _ h2)
/-! StepsBeyondModel.both(III)I -/
def f_M_both_118 (k47 : Int32 → Int32 → Int32 → zS → Option (Int32 × zS)) (x3 : Int32) (x5 : Int32) (y0 : Int32) (y1 : Int32) (σ : zS) : Option (Int32 × zS) :=
  zlt (y0 + y1) fun v1 => 
  k47 x3 v1 (x5 + 1) σ
set_option maxRecDepth 4000 in
theorem w_M_both_118 {l : Launch} {d : zD} {F : zF} {h : Nat → Nat} {out : Int32 × zS}  {k47 : Int32 → Int32 → Int32 → zS → Option (Int32 × zS)} (C : zOk d F RX11 cX11_both 6 8 185) (T : zRt d F (some .int) (some (.int out.1)) (MW d h out.2)) (H47 : ∀ (x3 : Int32) (x4 : Int32) (x5 : Int32) (σ : zS), k47 x3 x4 x5 σ = some out → V l d F 0 0 (MW d h σ) [some (.ref (h 0)), none, none, some (.int x3), some (.int x4), some (.int x5)] 47 []) (x3 : Int32) (x5 : Int32) (y0 : Int32) (y1 : Int32) (σ : zS) (hf : f_M_both_118 k47 x3 x5 y0 y1 σ = some out) : V l d F 0 0 (MW d h σ) [some (.ref (h 0)), none, none, some (.int x3), none, some (.int x5)] 118 [.int y1, .int y0] := by
  unfold f_M_both_118 at hf
  refine zr_iadd 119 C (by decide +kernel) rfl ?_
  refine zr_name hf (fun v1 hf => ?_)
  refine zr_istore 4 [some (.ref (h 0)), none, none, some (.int x3), some (.int v1), some (.int x5)] 121 C (by decide +kernel) rfl (by decide) rfl rfl ?_
  refine zr_iinc (j := 1) 5 [some (.ref (h 0)), none, none, some (.int x3), some (.int v1), some (.int (x5 + 1))] 124 C (by decide +kernel) rfl rfl rfl (by decide) rfl rfl ?_
  refine zr_goto (off := -77) 47 C (by decide +kernel) (by decide) ?_
  exact H47 _ _ _ _ hf
def f_M_both_117 (k47 : Int32 → Int32 → Int32 → zS → Option (Int32 × zS)) (x3 : Int32) (x5 : Int32) (y0 : Int32) (σ : zS) : Option (Int32 × zS) :=
  f_M_both_118 k47 x3 x5 y0 0 σ
set_option maxRecDepth 4000 in
theorem w_M_both_117 {l : Launch} {d : zD} {F : zF} {h : Nat → Nat} {out : Int32 × zS}  {k47 : Int32 → Int32 → Int32 → zS → Option (Int32 × zS)} (C : zOk d F RX11 cX11_both 6 8 185) (T : zRt d F (some .int) (some (.int out.1)) (MW d h out.2)) (H47 : ∀ (x3 : Int32) (x4 : Int32) (x5 : Int32) (σ : zS), k47 x3 x4 x5 σ = some out → V l d F 0 0 (MW d h σ) [some (.ref (h 0)), none, none, some (.int x3), some (.int x4), some (.int x5)] 47 []) (x3 : Int32) (x5 : Int32) (y0 : Int32) (σ : zS) (hf : f_M_both_117 k47 x3 x5 y0 σ = some out) : V l d F 0 0 (MW d h σ) [some (.ref (h 0)), none, none, some (.int x3), none, some (.int x5)] 117 [.int y0] := by
  unfold f_M_both_117 at hf
  refine zr_iconst (v := 0) 0 118 C (by decide +kernel) rfl rfl ?_
  exact w_M_both_118 C T H47 _ _ _ _ _ hf
def f_M_both_113 (k47 : Int32 → Int32 → Int32 → zS → Option (Int32 × zS)) (x3 : Int32) (x5 : Int32) (y0 : Int32) (σ : zS) : Option (Int32 × zS) :=
  f_M_both_118 k47 x3 x5 y0 1 σ
set_option maxRecDepth 4000 in
theorem w_M_both_113 {l : Launch} {d : zD} {F : zF} {h : Nat → Nat} {out : Int32 × zS}  {k47 : Int32 → Int32 → Int32 → zS → Option (Int32 × zS)} (C : zOk d F RX11 cX11_both 6 8 185) (T : zRt d F (some .int) (some (.int out.1)) (MW d h out.2)) (H47 : ∀ (x3 : Int32) (x4 : Int32) (x5 : Int32) (σ : zS), k47 x3 x4 x5 σ = some out → V l d F 0 0 (MW d h σ) [some (.ref (h 0)), none, none, some (.int x3), some (.int x4), some (.int x5)] 47 []) (x3 : Int32) (x5 : Int32) (y0 : Int32) (σ : zS) (hf : f_M_both_113 k47 x3 x5 y0 σ = some out) : V l d F 0 0 (MW d h σ) [some (.ref (h 0)), none, none, some (.int x3), none, some (.int x5)] 113 [.int y0] := by
  unfold f_M_both_113 at hf
  refine zr_iconst (v := 1) 1 114 C (by decide +kernel) rfl rfl ?_
  refine zr_goto (off := 4) 118 C (by decide +kernel) (by decide) ?_
  exact w_M_both_118 C T H47 _ _ _ _ _ hf
def f_M_both_85 (k47 : Int32 → Int32 → Int32 → zS → Option (Int32 × zS)) (x3 : Int32) (x5 : Int32) (y0 : Int32) (σ : zS) : Option (Int32 × zS) :=
  (if x3 = 1 then
  zin x5 1600 ((if (σ.2 27 x5.toNatClampNeg) = 0 then
  f_M_both_113 k47 x3 x5 y0 σ
  else
  f_M_both_117 k47 x3 x5 y0 σ))
  else
  zin x5 1600 ((if (σ.2 27 x5.toNatClampNeg) = 0 then
  f_M_both_117 k47 x3 x5 y0 σ
  else
  f_M_both_113 k47 x3 x5 y0 σ)))
set_option maxRecDepth 4000 in
theorem w_M_both_85 {l : Launch} {d : zD} {F : zF} {h : Nat → Nat} {out : Int32 × zS}  {k47 : Int32 → Int32 → Int32 → zS → Option (Int32 × zS)} (C : zOk d F RX11 cX11_both 6 8 185) (T : zRt d F (some .int) (some (.int out.1)) (MW d h out.2)) (H47 : ∀ (x3 : Int32) (x4 : Int32) (x5 : Int32) (σ : zS), k47 x3 x4 x5 σ = some out → V l d F 0 0 (MW d h σ) [some (.ref (h 0)), none, none, some (.int x3), some (.int x4), some (.int x5)] 47 []) (x3 : Int32) (x5 : Int32) (y0 : Int32) (σ : zS) (hf : f_M_both_85 k47 x3 x5 y0 σ = some out) : V l d F 0 0 (MW d h σ) [some (.ref (h 0)), none, none, some (.int x3), none, some (.int x5)] 85 [.int y0] := by
  unfold f_M_both_85 at hf
  refine zr_iload_n 3 86 C (by decide +kernel) rfl rfl ?_
  refine zr_iconst (v := 1) 1 87 C (by decide +kernel) rfl rfl ?_
  refine zr_icmp_ne (off := 16) 103 90 C (by decide +kernel) (by decide) rfl hf (fun hf => ?_) (fun hf => ?_)
  · refine zr_aload_n 0 104 C (by decide +kernel) rfl rfl ?_
    refine mg_0_53 (idx := 116) 107 C (by decide +kernel) rfl q_1044 ?_
    refine zr_iload 5 109 C (by decide +kernel) rfl rfl ?_
    refine ml_27 110 C (by decide +kernel) rfl hf (fun hf => ?_)
    refine zr_if_eq (off := 7) 117 113 C (by decide +kernel) (by decide) rfl hf (fun hf => ?_) (fun hf => ?_)
    · exact w_M_both_117 C T H47 _ _ _ _ hf
    · exact w_M_both_113 C T H47 _ _ _ _ hf
  · refine zr_aload_n 0 91 C (by decide +kernel) rfl rfl ?_
    refine mg_0_53 (idx := 116) 94 C (by decide +kernel) rfl q_1044 ?_
    refine zr_iload 5 96 C (by decide +kernel) rfl rfl ?_
    refine ml_27 97 C (by decide +kernel) rfl hf (fun hf => ?_)
    refine zr_if_ne (off := 20) 117 100 C (by decide +kernel) (by decide) rfl hf (fun hf => ?_) (fun hf => ?_)
    · exact w_M_both_117 C T H47 _ _ _ _ hf
    · refine zr_goto (off := 13) 113 C (by decide +kernel) (by decide) ?_
      exact w_M_both_113 C T H47 _ _ _ _ hf
def f_M_both_47b (k47 : Int32 → Int32 → Int32 → zS → Option (Int32 × zS)) (x3 : Int32) (x4 : Int32) (x5 : Int32) (σ : zS) : Option (Int32 × zS) :=
  (if 1600 ≤ x5 then
  some (x4, σ)
  else
  (if x3 = 2 then
  zin x5 1600 ((if (σ.2 26 x5.toNatClampNeg) = 0 then
  f_M_both_85 k47 x3 x5 x4 σ
  else
  f_M_both_117 k47 x3 x5 x4 σ))
  else
  zin x5 1600 ((if (σ.2 26 x5.toNatClampNeg) = 0 then
  f_M_both_117 k47 x3 x5 x4 σ
  else
  f_M_both_85 k47 x3 x5 x4 σ))))
set_option maxRecDepth 4000 in
theorem w_M_both_47b {l : Launch} {d : zD} {F : zF} {h : Nat → Nat} {out : Int32 × zS}  {k47 : Int32 → Int32 → Int32 → zS → Option (Int32 × zS)} (C : zOk d F RX11 cX11_both 6 8 185) (T : zRt d F (some .int) (some (.int out.1)) (MW d h out.2)) (H47 : ∀ (x3 : Int32) (x4 : Int32) (x5 : Int32) (σ : zS), k47 x3 x4 x5 σ = some out → V l d F 0 0 (MW d h σ) [some (.ref (h 0)), none, none, some (.int x3), some (.int x4), some (.int x5)] 47 []) (x3 : Int32) (x4 : Int32) (x5 : Int32) (σ : zS) (hf : f_M_both_47b k47 x3 x4 x5 σ = some out) : V l d F 0 0 (MW d h σ) [some (.ref (h 0)), none, none, some (.int x3), some (.int x4), some (.int x5)] 47 [] := by
  unfold f_M_both_47b at hf
  refine zr_iload 5 49 C (by decide +kernel) rfl rfl ?_
  refine zr_sipush (v := 1600) 1600 52 C (by decide +kernel) rfl rfl ?_
  refine zr_icmp_ge (off := 75) 127 55 C (by decide +kernel) (by decide) rfl hf (fun hf => ?_) (fun hf => ?_)
  · refine zr_iload 4 129 C (by decide +kernel) rfl rfl ?_
    obtain rfl := Option.some.inj hf
    exact zr_iret C (by decide +kernel) T
  · refine zr_iload 4 57 C (by decide +kernel) rfl rfl ?_
    refine zr_iload_n 3 58 C (by decide +kernel) rfl rfl ?_
    refine zr_iconst (v := 2) 2 59 C (by decide +kernel) rfl rfl ?_
    refine zr_icmp_ne (off := 16) 75 62 C (by decide +kernel) (by decide) rfl hf (fun hf => ?_) (fun hf => ?_)
    · refine zr_aload_n 0 76 C (by decide +kernel) rfl rfl ?_
      refine mg_0_52 (idx := 112) 79 C (by decide +kernel) rfl q_1043 ?_
      refine zr_iload 5 81 C (by decide +kernel) rfl rfl ?_
      refine ml_26 82 C (by decide +kernel) rfl hf (fun hf => ?_)
      refine zr_if_eq (off := 35) 117 85 C (by decide +kernel) (by decide) rfl hf (fun hf => ?_) (fun hf => ?_)
      · refine zr_less (zA (zN (zN (zA (zN (zA zE)))))) ?_
        exact w_M_both_117 C T H47 _ _ _ _ hf
      · refine zr_less (zA (zN (zN (zA (zN (zA zE)))))) ?_
        exact w_M_both_85 C T H47 _ _ _ _ hf
    · refine zr_aload_n 0 63 C (by decide +kernel) rfl rfl ?_
      refine mg_0_52 (idx := 112) 66 C (by decide +kernel) rfl q_1043 ?_
      refine zr_iload 5 68 C (by decide +kernel) rfl rfl ?_
      refine ml_26 69 C (by decide +kernel) rfl hf (fun hf => ?_)
      refine zr_if_ne (off := 48) 117 72 C (by decide +kernel) (by decide) rfl hf (fun hf => ?_) (fun hf => ?_)
      · refine zr_less (zA (zN (zN (zA (zN (zA zE)))))) ?_
        exact w_M_both_117 C T H47 _ _ _ _ hf
      · refine zr_goto (off := 13) 85 C (by decide +kernel) (by decide) ?_
        refine zr_less (zA (zN (zN (zA (zN (zA zE)))))) ?_
        exact w_M_both_85 C T H47 _ _ _ _ hf
def f_M_both_47  : Nat → Int32 → Int32 → Int32 → zS → Option (Int32 × zS)
  | 0, _, _, _, _ => none
  | n + 1, x3, x4, x5,  σ => f_M_both_47b (fun x3 x4 x5 σ => f_M_both_47  n x3 x4 x5 σ) x3 x4 x5 σ
theorem w_M_both_47 {l : Launch} {d : zD} {F : zF} {h : Nat → Nat} {out : Int32 × zS}   (C : zOk d F RX11 cX11_both 6 8 185) (T : zRt d F (some .int) (some (.int out.1)) (MW d h out.2))  : ∀ (n : Nat) (x3 : Int32) (x4 : Int32) (x5 : Int32) (σ : zS), f_M_both_47  n x3 x4 x5 σ = some out → V l d F 0 0 (MW d h σ) [some (.ref (h 0)), none, none, some (.int x3), some (.int x4), some (.int x5)] 47 [] := by
  intro n
  induction n with
  | zero =>
    intro x3 x4 x5 σ hf
    cases hf
  | succ n ih =>
    intro x3 x4 x5 σ hf
    exact w_M_both_47b C T ih x3 x4 x5 σ hf
def f_M_both (p1 : Int32) (p2 : Int32) (p3 : Int32) (σ : zS) : Option (Int32 × zS) :=
  zbd (f_M_isShape p1 σ) fun r2 σ1 =>
  (if r2 = 0 then
  some (-1, σ1)
  else
  zbd (f_M_isShape p2 σ1) fun r4 σ3 =>
  (if r4 = 0 then
  some (-1, σ3)
  else
  zbd (f_M_in p3 0 2 σ3) fun r6 σ5 =>
  (if r6 = 0 then
  some (-2, σ5)
  else
  zbd (f_M_marksOne p1 σ5) fun r8 σ7 =>
  zbd (f_M_marksOther p2 σ7) fun _ σ9 =>
  f_M_both_47 zfu p3 0 0 σ9)))
set_option maxRecDepth 4000 in
theorem m_M_both {l : Launch} {d : zD} {h : Nat → Nat} {out : Int32 × zS} {σ : zS} {p1 : Int32} {p2 : Int32} {p3 : Int32} (hf : f_M_both p1 p2 p3 σ = some out) : zM l yX11_both cX11_both 6 (some .int) 8 185 d [.ref (h 0), .int p1, .int p2, .int p3] (MW d h σ) (MW d h out.2) (some (.int out.1)) := by
  refine zM_of [some (.ref (h 0)), some (.int p1), some (.int p2), some (.int p3), none, none] (by decide +kernel) rfl (Nat.le_of_ble_eq_true rfl) (fun F C T => ?_)
  unfold f_M_both at hf
  refine zr_aload_n 0 1 C (by decide +kernel) rfl rfl ?_
  refine zr_iload_n 1 2 C (by decide +kernel) rfl rfl ?_
  refine k_M_isShape (idx := 263) 5 C (by decide +kernel) rfl q_1313 (zb2 rfl rfl) (Nat.le_of_ble_eq_true rfl) hf (fun r2 σ1 hf => ?_)
  refine zr_if_eq (off := 11) 16 8 C (by decide +kernel) (by decide) rfl hf (fun hf => ?_) (fun hf => ?_)
  · refine zr_iconst (v := (-1)) (-1) 17 C (by decide +kernel) rfl rfl ?_
    obtain rfl := Option.some.inj hf
    exact zr_iret C (by decide +kernel) T
  · refine zr_aload_n 0 9 C (by decide +kernel) rfl rfl ?_
    refine zr_iload_n 2 10 C (by decide +kernel) rfl rfl ?_
    refine k_M_isShape (idx := 263) 13 C (by decide +kernel) rfl q_1313 (zb2 rfl rfl) (Nat.le_of_ble_eq_true rfl) hf (fun r4 σ3 hf => ?_)
    refine zr_if_ne (off := 5) 18 16 C (by decide +kernel) (by decide) rfl hf (fun hf => ?_) (fun hf => ?_)
    · refine zr_iload_n 3 19 C (by decide +kernel) rfl rfl ?_
      refine zr_iconst (v := 0) 0 20 C (by decide +kernel) rfl rfl ?_
      refine zr_iconst (v := 2) 2 21 C (by decide +kernel) rfl rfl ?_
      refine k_M_in (idx := 139) 24 C (by decide +kernel) rfl q_1181 (zb2 rfl rfl) (Nat.le_of_ble_eq_true rfl) hf (fun r6 σ5 hf => ?_)
      refine zr_if_ne (off := 6) 30 27 C (by decide +kernel) (by decide) rfl hf (fun hf => ?_) (fun hf => ?_)
      · refine zr_aload_n 0 31 C (by decide +kernel) rfl rfl ?_
        refine zr_iload_n 1 32 C (by decide +kernel) rfl rfl ?_
        refine k_M_marksOne (idx := 305) 35 C (by decide +kernel) rfl q_1353 (zb2 rfl rfl) (Nat.le_of_ble_eq_true rfl) hf (fun r8 σ7 hf => ?_)
        refine zr_pop 36 C (by decide +kernel) rfl rfl ?_
        refine zr_aload_n 0 37 C (by decide +kernel) rfl rfl ?_
        refine zr_iload_n 2 38 C (by decide +kernel) rfl rfl ?_
        refine k_M_marksOther (idx := 308) 41 C (by decide +kernel) rfl q_1361 (zb2 rfl rfl) (Nat.le_of_ble_eq_true rfl) hf (fun _ σ9 hf => ?_)
        refine zr_iconst (v := 0) 0 42 C (by decide +kernel) rfl rfl ?_
        refine zr_istore 4 [some (.ref (h 0)), some (.int p1), some (.int p2), some (.int p3), some (.int 0), none] 44 C (by decide +kernel) rfl (by decide) rfl rfl ?_
        refine zr_iconst (v := 0) 0 45 C (by decide +kernel) rfl rfl ?_
        refine zr_istore 5 [some (.ref (h 0)), some (.int p1), some (.int p2), some (.int p3), some (.int 0), some (.int 0)] 47 C (by decide +kernel) rfl (by decide) rfl rfl ?_
        refine zr_less (zA (zN (zN (zA (zA (zA zE)))))) ?_
        exact w_M_both_47 C T zfu _ _ _ _ hf
      · refine zr_bipush (v := (-2)) (-2) 29 C (by decide +kernel) rfl rfl ?_
        obtain rfl := Option.some.inj hf
        exact zr_iret C (by decide +kernel) T
    · refine zr_iconst (v := (-1)) (-1) 17 C (by decide +kernel) rfl rfl ?_
      obtain rfl := Option.some.inj hf
      exact zr_iret C (by decide +kernel) T
theorem y_M_both : zY yX11_both cX11_both 6 (some .int) 3 := ⟨q_1360, q_90, by decide +kernel, by decide +kernel, by decide +kernel⟩
theorem k_M_both {l : Launch} {d : zD} {F : zF} {h : Nat → Nat} {σ : zS} {lv : List (Option Value)} {pc : Nat} {own : String} {cc : ByteArray} {nL fr lo idx : Nat} {rest : List Value} {β : Type} {kf : Int32 → zS → Option β} {o2 : β}  {p1 : Int32} {p2 : Int32} {p3 : Int32} (pc' : Nat) (C : zOk d F own cc nL fr lo) (hd : decode cc pc = .ok (.invokevirtual idx, 3)) (hp : pc + 3 = pc') (hq : Cond.methodLink own idx yX11_both ∈ zW) (hm : 8 + 1 ≤ fr ∧ 8 + (6 + 11) + 185 ≤ lo) (hr : (rest.map fun v => v.category).sum ≤ 8) (hf : zbd (f_M_both p1 p2 p3 σ) kf = some o2) (K : ∀ (r : Int32) (σ' : zS), kf r σ' = some o2 → V l d F 0 0 (MW d h σ') lv pc' (.int r :: rest)) : V l d F 0 0 (MW d h σ) lv pc (.int p3 :: .int p2 :: .int p1 :: .ref (h 0) :: rest) := by
  obtain ⟨q, h1, h2⟩ := zbd_some hf
  exact zr_callV y_M_both ⟨q_1358, q_1359⟩ 0 rfl rfl (As := [.int p1, .int p2, .int p3]) (m_M_both h1) rfl rfl pc' C hd hp hq hm hr (K _ _ h2)
/-! StepsBeyondModel.laid(II)I -/
def f_M_laid_87 (k42 : Int32 → Int32 → Int32 → zS → Option (Int32 × zS)) (x2 : Int32) (x3 : Int32) (x4 : Int32) (σ : zS) : Option (Int32 × zS) :=
  k42 x2 x3 (x4 + 1) σ
set_option maxRecDepth 4000 in
theorem w_M_laid_87 {l : Launch} {d : zD} {F : zF} {h : Nat → Nat} {out : Int32 × zS}  {k42 : Int32 → Int32 → Int32 → zS → Option (Int32 × zS)} (C : zOk d F RX11 cX11_laid 5 4 90) (T : zRt d F (some .int) (some (.int out.1)) (MW d h out.2)) (H42 : ∀ (x2 : Int32) (x3 : Int32) (x4 : Int32) (σ : zS), k42 x2 x3 x4 σ = some out → V l d F 0 0 (MW d h σ) [none, none, some (.int x2), some (.int x3), some (.int x4)] 42 []) (x2 : Int32) (x3 : Int32) (x4 : Int32) (σ : zS) (hf : f_M_laid_87 k42 x2 x3 x4 σ = some out) : V l d F 0 0 (MW d h σ) [none, none, some (.int x2), some (.int x3), some (.int x4)] 87 [] := by
  unfold f_M_laid_87 at hf
  refine zr_iinc (j := 1) 4 [none, none, some (.int x2), some (.int x3), some (.int (x4 + 1))] 90 C (by decide +kernel) rfl rfl rfl (by decide) rfl rfl ?_
  refine zr_goto (off := -48) 42 C (by decide +kernel) (by decide) ?_
  exact H42 _ _ _ _ hf
def f_M_laid_42b (k42 : Int32 → Int32 → Int32 → zS → Option (Int32 × zS)) (x2 : Int32) (x3 : Int32) (x4 : Int32) (σ : zS) : Option (Int32 × zS) :=
  (if 1600 ≤ x4 then
  some (-3, σ)
  else
  zbd (f_M_abs ((zrem x4 40) - (zrem x2 40)) σ) fun r2 σ1 =>
  (if x3 < r2 then
  f_M_laid_87 k42 x2 x3 x4 σ1
  else
  zbd (f_M_abs ((x4 / 40) - (x2 / 40)) σ1) fun r4 σ3 =>
  (if x3 < r4 then
  f_M_laid_87 k42 x2 x3 x4 σ3
  else
  some (x4, σ3))))
set_option maxRecDepth 4000 in
theorem w_M_laid_42b {l : Launch} {d : zD} {F : zF} {h : Nat → Nat} {out : Int32 × zS}  {k42 : Int32 → Int32 → Int32 → zS → Option (Int32 × zS)} (C : zOk d F RX11 cX11_laid 5 4 90) (T : zRt d F (some .int) (some (.int out.1)) (MW d h out.2)) (H42 : ∀ (x2 : Int32) (x3 : Int32) (x4 : Int32) (σ : zS), k42 x2 x3 x4 σ = some out → V l d F 0 0 (MW d h σ) [none, none, some (.int x2), some (.int x3), some (.int x4)] 42 []) (x2 : Int32) (x3 : Int32) (x4 : Int32) (σ : zS) (hf : f_M_laid_42b k42 x2 x3 x4 σ = some out) : V l d F 0 0 (MW d h σ) [none, none, some (.int x2), some (.int x3), some (.int x4)] 42 [] := by
  unfold f_M_laid_42b at hf
  refine zr_iload 4 44 C (by decide +kernel) rfl rfl ?_
  refine zr_sipush (v := 1600) 1600 47 C (by decide +kernel) rfl rfl ?_
  refine zr_icmp_ge (off := 46) 93 50 C (by decide +kernel) (by decide) rfl hf (fun hf => ?_) (fun hf => ?_)
  · refine zr_bipush (v := (-3)) (-3) 95 C (by decide +kernel) rfl rfl ?_
    obtain rfl := Option.some.inj hf
    exact zr_iret C (by decide +kernel) T
  · refine zr_iload 4 52 C (by decide +kernel) rfl rfl ?_
    refine zr_bipush (v := 40) 40 54 C (by decide +kernel) rfl rfl ?_
    refine zr_irem 55 C (by decide +kernel) rfl (by decide) ?_
    refine zr_iload_n 2 56 C (by decide +kernel) rfl rfl ?_
    refine zr_bipush (v := 40) 40 58 C (by decide +kernel) rfl rfl ?_
    refine zr_irem 59 C (by decide +kernel) rfl (by decide) ?_
    refine zr_isub 60 C (by decide +kernel) rfl ?_
    refine k_M_abs (idx := 146) 63 C (by decide +kernel) rfl q_1260 (zb2 rfl rfl) (Nat.le_of_ble_eq_true rfl) hf (fun r2 σ1 hf => ?_)
    refine zr_iload_n 3 64 C (by decide +kernel) rfl rfl ?_
    refine zr_icmp_gt (off := 23) 87 67 C (by decide +kernel) (by decide) rfl hf (fun hf => ?_) (fun hf => ?_)
    · exact w_M_laid_87 C T H42 _ _ _ _ hf
    · refine zr_iload 4 69 C (by decide +kernel) rfl rfl ?_
      refine zr_bipush (v := 40) 40 71 C (by decide +kernel) rfl rfl ?_
      refine zr_idiv 72 C (by decide +kernel) rfl (by decide) ?_
      refine zr_iload_n 2 73 C (by decide +kernel) rfl rfl ?_
      refine zr_bipush (v := 40) 40 75 C (by decide +kernel) rfl rfl ?_
      refine zr_idiv 76 C (by decide +kernel) rfl (by decide) ?_
      refine zr_isub 77 C (by decide +kernel) rfl ?_
      refine k_M_abs (idx := 146) 80 C (by decide +kernel) rfl q_1260 (zb2 rfl rfl) (Nat.le_of_ble_eq_true rfl) hf (fun r4 σ3 hf => ?_)
      refine zr_iload_n 3 81 C (by decide +kernel) rfl rfl ?_
      refine zr_icmp_gt (off := 6) 87 84 C (by decide +kernel) (by decide) rfl hf (fun hf => ?_) (fun hf => ?_)
      · exact w_M_laid_87 C T H42 _ _ _ _ hf
      · refine zr_iload 4 86 C (by decide +kernel) rfl rfl ?_
        obtain rfl := Option.some.inj hf
        exact zr_iret C (by decide +kernel) T
def f_M_laid_42  : Nat → Int32 → Int32 → Int32 → zS → Option (Int32 × zS)
  | 0, _, _, _, _ => none
  | n + 1, x2, x3, x4,  σ => f_M_laid_42b (fun x2 x3 x4 σ => f_M_laid_42  n x2 x3 x4 σ) x2 x3 x4 σ
theorem w_M_laid_42 {l : Launch} {d : zD} {F : zF} {h : Nat → Nat} {out : Int32 × zS}   (C : zOk d F RX11 cX11_laid 5 4 90) (T : zRt d F (some .int) (some (.int out.1)) (MW d h out.2))  : ∀ (n : Nat) (x2 : Int32) (x3 : Int32) (x4 : Int32) (σ : zS), f_M_laid_42  n x2 x3 x4 σ = some out → V l d F 0 0 (MW d h σ) [none, none, some (.int x2), some (.int x3), some (.int x4)] 42 [] := by
  intro n
  induction n with
  | zero =>
    intro x2 x3 x4 σ hf
    cases hf
  | succ n ih =>
    intro x2 x3 x4 σ hf
    exact w_M_laid_42b C T ih x2 x3 x4 σ hf
def f_M_laid (p1 : Int32) (p2 : Int32) (σ : zS) : Option (Int32 × zS) :=
  zbd (f_M_isShape p1 σ) fun r2 σ1 =>
  (if r2 = 0 then
  some (-1, σ1)
  else
  zbd (f_M_isPlace p2 σ1) fun r4 σ3 =>
  (if r4 = 0 then
  some (-2, σ3)
  else
  zin p1 12 ((if (σ3.2 3 p1.toNatClampNeg) = 5 then
  zbd (f_M_reach p1 σ3) fun r6 σ5 =>
  f_M_laid_42 zfu p2 r6 0 σ5
  else
  some (-13, σ3)))))
set_option maxRecDepth 4000 in
theorem m_M_laid {l : Launch} {d : zD} {h : Nat → Nat} {out : Int32 × zS} {σ : zS} {p1 : Int32} {p2 : Int32} (hf : f_M_laid p1 p2 σ = some out) : zM l yX11_laid cX11_laid 5 (some .int) 4 90 d [.ref (h 0), .int p1, .int p2] (MW d h σ) (MW d h out.2) (some (.int out.1)) := by
  refine zM_of [some (.ref (h 0)), some (.int p1), some (.int p2), none, none] (by decide +kernel) rfl (Nat.le_of_ble_eq_true rfl) (fun F C T => ?_)
  unfold f_M_laid at hf
  refine zr_aload_n 0 1 C (by decide +kernel) rfl rfl ?_
  refine zr_iload_n 1 2 C (by decide +kernel) rfl rfl ?_
  refine k_M_isShape (idx := 263) 5 C (by decide +kernel) rfl q_1313 (zb2 rfl rfl) (Nat.le_of_ble_eq_true rfl) hf (fun r2 σ1 hf => ?_)
  refine zr_if_ne (off := 5) 10 8 C (by decide +kernel) (by decide) rfl hf (fun hf => ?_) (fun hf => ?_)
  · refine zr_iload_n 2 11 C (by decide +kernel) rfl rfl ?_
    refine k_M_isPlace (idx := 150) 14 C (by decide +kernel) rfl q_1178 (zb2 rfl rfl) (Nat.le_of_ble_eq_true rfl) hf (fun r4 σ3 hf => ?_)
    refine zr_if_ne (off := 6) 20 17 C (by decide +kernel) (by decide) rfl hf (fun hf => ?_) (fun hf => ?_)
    · refine zr_aload_n 0 21 C (by decide +kernel) rfl rfl ?_
      refine mg_0_4 (idx := 16) 24 C (by decide +kernel) rfl q_995 ?_
      refine zr_iload_n 1 25 C (by decide +kernel) rfl rfl ?_
      refine ml_3 26 C (by decide +kernel) rfl hf (fun hf => ?_)
      refine zr_iconst (v := 5) 5 27 C (by decide +kernel) rfl rfl ?_
      refine zr_icmp_eq (off := 6) 33 30 C (by decide +kernel) (by decide) rfl hf (fun hf => ?_) (fun hf => ?_)
      · refine zr_aload_n 0 34 C (by decide +kernel) rfl rfl ?_
        refine zr_iload_n 1 35 C (by decide +kernel) rfl rfl ?_
        refine k_M_reach (idx := 266) 38 C (by decide +kernel) rfl q_1317 (zb2 rfl rfl) (Nat.le_of_ble_eq_true rfl) hf (fun r6 σ5 hf => ?_)
        refine zr_istore_n 3 [some (.ref (h 0)), some (.int p1), some (.int p2), some (.int r6), none] 39 C (by decide +kernel) rfl (by decide) rfl rfl ?_
        refine zr_iconst (v := 0) 0 40 C (by decide +kernel) rfl rfl ?_
        refine zr_istore 4 [some (.ref (h 0)), some (.int p1), some (.int p2), some (.int r6), some (.int 0)] 42 C (by decide +kernel) rfl (by decide) rfl rfl ?_
        refine zr_less (zN (zN (zA (zA (zA zE))))) ?_
        exact w_M_laid_42 C T zfu _ _ _ _ hf
      · refine zr_bipush (v := (-13)) (-13) 32 C (by decide +kernel) rfl rfl ?_
        obtain rfl := Option.some.inj hf
        exact zr_iret C (by decide +kernel) T
    · refine zr_bipush (v := (-2)) (-2) 19 C (by decide +kernel) rfl rfl ?_
      obtain rfl := Option.some.inj hf
      exact zr_iret C (by decide +kernel) T
  · refine zr_iconst (v := (-1)) (-1) 9 C (by decide +kernel) rfl rfl ?_
    obtain rfl := Option.some.inj hf
    exact zr_iret C (by decide +kernel) T
theorem y_M_laid : zY yX11_laid cX11_laid 5 (some .int) 2 := ⟨q_1368, q_90, by decide +kernel, by decide +kernel, by decide +kernel⟩
theorem k_M_laid {l : Launch} {d : zD} {F : zF} {h : Nat → Nat} {σ : zS} {lv : List (Option Value)} {pc : Nat} {own : String} {cc : ByteArray} {nL fr lo idx : Nat} {rest : List Value} {β : Type} {kf : Int32 → zS → Option β} {o2 : β}  {p1 : Int32} {p2 : Int32} (pc' : Nat) (C : zOk d F own cc nL fr lo) (hd : decode cc pc = .ok (.invokevirtual idx, 3)) (hp : pc + 3 = pc') (hq : Cond.methodLink own idx yX11_laid ∈ zW) (hm : 4 + 1 ≤ fr ∧ 8 + (5 + 11) + 90 ≤ lo) (hr : (rest.map fun v => v.category).sum ≤ 8) (hf : zbd (f_M_laid p1 p2 σ) kf = some o2) (K : ∀ (r : Int32) (σ' : zS), kf r σ' = some o2 → V l d F 0 0 (MW d h σ') lv pc' (.int r :: rest)) : V l d F 0 0 (MW d h σ) lv pc (.int p2 :: .int p1 :: .ref (h 0) :: rest) := by
  obtain ⟨q, h1, h2⟩ := zbd_some hf
  exact zr_callV y_M_laid ⟨q_1366, q_1367⟩ 0 rfl rfl (As := [.int p1, .int p2]) (m_M_laid h1) rfl rfl pc' C hd hp hq hm hr (K _ _ h2)
/-! StepsBeyondModel.ravine(IIIII)I -/
def f_M_ravine (p1 : Int32) (p2 : Int32) (p3 : Int32) (p4 : Int32) (p5 : Int32) (σ : zS) : Option (Int32 × zS) :=
  zbd (f_M_in p1 0 1 σ) fun r2 σ1 =>
  (if r2 = 0 then
  some (-2, σ1)
  else
  zbd (f_M_in p2 1 39 σ1) fun r4 σ3 =>
  (if r4 = 0 then
  some (-2, σ3)
  else
  zbd (f_M_in p3 0 39 σ3) fun r6 σ5 =>
  (if r6 = 0 then
  some (-2, σ5)
  else
  zbd (f_M_in p4 p3 39 σ5) fun r8 σ7 =>
  (if r8 = 0 then
  some (-2, σ7)
  else
  zbd (f_M_in p5 1 99 σ7) fun r10 σ9 =>
  (if r10 = 0 then
  some (-2, σ9)
  else
  (if (σ9.1 8) = 6 then
  some (-4, σ9)
  else
  zin (σ9.1 8) 6 (zlt (zsa σ9 6 (σ9.1 8) p1) fun σ11 =>
  zin (σ11.1 8) 6 (zlt (zsa σ11 7 (σ11.1 8) p2) fun σ12 =>
  zin (σ12.1 8) 6 (zlt (zsa σ12 8 (σ12.1 8) p3) fun σ13 =>
  zin (σ13.1 8) 6 (zlt (zsa σ13 9 (σ13.1 8) p4) fun σ14 =>
  zin (σ14.1 8) 6 (zlt (zsa σ14 10 (σ14.1 8) p5) fun σ15 =>
  zlt (zsg σ15 8 ((σ15.1 8) + 1)) fun σ16 =>
  some (σ16.1 8, σ16))))))))))))
set_option maxRecDepth 4000 in
theorem m_M_ravine {l : Launch} {d : zD} {h : Nat → Nat} {out : Int32 × zS} {σ : zS} {p1 : Int32} {p2 : Int32} {p3 : Int32} {p4 : Int32} {p5 : Int32} (hf : f_M_ravine p1 p2 p3 p4 p5 σ = some out) : zM l yX11_ravine cX11_ravine 6 (some .int) 1 22 d [.ref (h 0), .int p1, .int p2, .int p3, .int p4, .int p5] (MW d h σ) (MW d h out.2) (some (.int out.1)) := by
  refine zM_of [some (.ref (h 0)), some (.int p1), some (.int p2), some (.int p3), some (.int p4), some (.int p5)] (by decide +kernel) rfl (Nat.le_of_ble_eq_true rfl) (fun F C T => ?_)
  unfold f_M_ravine at hf
  refine zr_iload_n 1 1 C (by decide +kernel) rfl rfl ?_
  refine zr_iconst (v := 0) 0 2 C (by decide +kernel) rfl rfl ?_
  refine zr_iconst (v := 1) 1 3 C (by decide +kernel) rfl rfl ?_
  refine k_M_in (idx := 139) 6 C (by decide +kernel) rfl q_1181 (zb2 rfl rfl) (Nat.le_of_ble_eq_true rfl) hf (fun r2 σ1 hf => ?_)
  refine zr_if_eq (off := 45) 51 9 C (by decide +kernel) (by decide) rfl hf (fun hf => ?_) (fun hf => ?_)
  · refine zr_bipush (v := (-2)) (-2) 53 C (by decide +kernel) rfl rfl ?_
    obtain rfl := Option.some.inj hf
    exact zr_iret C (by decide +kernel) T
  · refine zr_iload_n 2 10 C (by decide +kernel) rfl rfl ?_
    refine zr_iconst (v := 1) 1 11 C (by decide +kernel) rfl rfl ?_
    refine zr_bipush (v := 39) 39 13 C (by decide +kernel) rfl rfl ?_
    refine k_M_in (idx := 139) 16 C (by decide +kernel) rfl q_1181 (zb2 rfl rfl) (Nat.le_of_ble_eq_true rfl) hf (fun r4 σ3 hf => ?_)
    refine zr_if_eq (off := 35) 51 19 C (by decide +kernel) (by decide) rfl hf (fun hf => ?_) (fun hf => ?_)
    · refine zr_bipush (v := (-2)) (-2) 53 C (by decide +kernel) rfl rfl ?_
      obtain rfl := Option.some.inj hf
      exact zr_iret C (by decide +kernel) T
    · refine zr_iload_n 3 20 C (by decide +kernel) rfl rfl ?_
      refine zr_iconst (v := 0) 0 21 C (by decide +kernel) rfl rfl ?_
      refine zr_bipush (v := 39) 39 23 C (by decide +kernel) rfl rfl ?_
      refine k_M_in (idx := 139) 26 C (by decide +kernel) rfl q_1181 (zb2 rfl rfl) (Nat.le_of_ble_eq_true rfl) hf (fun r6 σ5 hf => ?_)
      refine zr_if_eq (off := 25) 51 29 C (by decide +kernel) (by decide) rfl hf (fun hf => ?_) (fun hf => ?_)
      · refine zr_bipush (v := (-2)) (-2) 53 C (by decide +kernel) rfl rfl ?_
        obtain rfl := Option.some.inj hf
        exact zr_iret C (by decide +kernel) T
      · refine zr_iload 4 31 C (by decide +kernel) rfl rfl ?_
        refine zr_iload_n 3 32 C (by decide +kernel) rfl rfl ?_
        refine zr_bipush (v := 39) 39 34 C (by decide +kernel) rfl rfl ?_
        refine k_M_in (idx := 139) 37 C (by decide +kernel) rfl q_1181 (zb2 rfl rfl) (Nat.le_of_ble_eq_true rfl) hf (fun r8 σ7 hf => ?_)
        refine zr_if_eq (off := 14) 51 40 C (by decide +kernel) (by decide) rfl hf (fun hf => ?_) (fun hf => ?_)
        · refine zr_bipush (v := (-2)) (-2) 53 C (by decide +kernel) rfl rfl ?_
          obtain rfl := Option.some.inj hf
          exact zr_iret C (by decide +kernel) T
        · refine zr_iload 5 42 C (by decide +kernel) rfl rfl ?_
          refine zr_iconst (v := 1) 1 43 C (by decide +kernel) rfl rfl ?_
          refine zr_bipush (v := 99) 99 45 C (by decide +kernel) rfl rfl ?_
          refine k_M_in (idx := 139) 48 C (by decide +kernel) rfl q_1181 (zb2 rfl rfl) (Nat.le_of_ble_eq_true rfl) hf (fun r10 σ9 hf => ?_)
          refine zr_if_ne (off := 6) 54 51 C (by decide +kernel) (by decide) rfl hf (fun hf => ?_) (fun hf => ?_)
          · refine zr_aload_n 0 55 C (by decide +kernel) rfl rfl ?_
            refine mg_0_8 (idx := 229) 58 C (by decide +kernel) rfl q_999 ?_
            refine zr_bipush (v := 6) 6 60 C (by decide +kernel) rfl rfl ?_
            refine zr_icmp_ne (off := 6) 66 63 C (by decide +kernel) (by decide) rfl hf (fun hf => ?_) (fun hf => ?_)
            · refine zr_aload_n 0 67 C (by decide +kernel) rfl rfl ?_
              refine mg_0_9 (idx := 25) 70 C (by decide +kernel) rfl q_1000 ?_
              refine zr_aload_n 0 71 C (by decide +kernel) rfl rfl ?_
              refine mg_0_8 (idx := 229) 74 C (by decide +kernel) rfl q_999 ?_
              refine zr_iload_n 1 75 C (by decide +kernel) rfl rfl ?_
              refine ms_6 76 C (by decide +kernel) rfl hf (fun σ11 hf => ?_)
              refine zr_aload_n 0 77 C (by decide +kernel) rfl rfl ?_
              refine mg_0_10 (idx := 28) 80 C (by decide +kernel) rfl q_1001 ?_
              refine zr_aload_n 0 81 C (by decide +kernel) rfl rfl ?_
              refine mg_0_8 (idx := 229) 84 C (by decide +kernel) rfl q_999 ?_
              refine zr_iload_n 2 85 C (by decide +kernel) rfl rfl ?_
              refine ms_7 86 C (by decide +kernel) rfl hf (fun σ12 hf => ?_)
              refine zr_aload_n 0 87 C (by decide +kernel) rfl rfl ?_
              refine mg_0_11 (idx := 31) 90 C (by decide +kernel) rfl q_1002 ?_
              refine zr_aload_n 0 91 C (by decide +kernel) rfl rfl ?_
              refine mg_0_8 (idx := 229) 94 C (by decide +kernel) rfl q_999 ?_
              refine zr_iload_n 3 95 C (by decide +kernel) rfl rfl ?_
              refine ms_8 96 C (by decide +kernel) rfl hf (fun σ13 hf => ?_)
              refine zr_aload_n 0 97 C (by decide +kernel) rfl rfl ?_
              refine mg_0_12 (idx := 34) 100 C (by decide +kernel) rfl q_1003 ?_
              refine zr_aload_n 0 101 C (by decide +kernel) rfl rfl ?_
              refine mg_0_8 (idx := 229) 104 C (by decide +kernel) rfl q_999 ?_
              refine zr_iload 4 106 C (by decide +kernel) rfl rfl ?_
              refine ms_9 107 C (by decide +kernel) rfl hf (fun σ14 hf => ?_)
              refine zr_aload_n 0 108 C (by decide +kernel) rfl rfl ?_
              refine mg_0_13 (idx := 37) 111 C (by decide +kernel) rfl q_1004 ?_
              refine zr_aload_n 0 112 C (by decide +kernel) rfl rfl ?_
              refine mg_0_8 (idx := 229) 115 C (by decide +kernel) rfl q_999 ?_
              refine zr_iload 5 117 C (by decide +kernel) rfl rfl ?_
              refine ms_10 118 C (by decide +kernel) rfl hf (fun σ15 hf => ?_)
              refine zr_aload_n 0 119 C (by decide +kernel) rfl rfl ?_
              refine zr_dup 120 C (by decide +kernel) rfl rfl ?_
              refine mg_0_8 (idx := 229) 123 C (by decide +kernel) rfl q_999 ?_
              refine zr_iconst (v := 1) 1 124 C (by decide +kernel) rfl rfl ?_
              refine zr_iadd 125 C (by decide +kernel) rfl ?_
              refine mp_0_8 (idx := 229) 128 C (by decide +kernel) rfl q_999 hf (fun σ16 hf => ?_)
              refine zr_aload_n 0 129 C (by decide +kernel) rfl rfl ?_
              refine mg_0_8 (idx := 229) 132 C (by decide +kernel) rfl q_999 ?_
              obtain rfl := Option.some.inj hf
              exact zr_iret C (by decide +kernel) T
            · refine zr_bipush (v := (-4)) (-4) 65 C (by decide +kernel) rfl rfl ?_
              obtain rfl := Option.some.inj hf
              exact zr_iret C (by decide +kernel) T
          · refine zr_bipush (v := (-2)) (-2) 53 C (by decide +kernel) rfl rfl ?_
            obtain rfl := Option.some.inj hf
            exact zr_iret C (by decide +kernel) T
theorem y_M_ravine : zY yX11_ravine cX11_ravine 6 (some .int) 5 := ⟨q_1372, q_90, by decide +kernel, by decide +kernel, by decide +kernel⟩
theorem k_M_ravine {l : Launch} {d : zD} {F : zF} {h : Nat → Nat} {σ : zS} {lv : List (Option Value)} {pc : Nat} {own : String} {cc : ByteArray} {nL fr lo idx : Nat} {rest : List Value} {β : Type} {kf : Int32 → zS → Option β} {o2 : β}  {p1 : Int32} {p2 : Int32} {p3 : Int32} {p4 : Int32} {p5 : Int32} (pc' : Nat) (C : zOk d F own cc nL fr lo) (hd : decode cc pc = .ok (.invokevirtual idx, 3)) (hp : pc + 3 = pc') (hq : Cond.methodLink own idx yX11_ravine ∈ zW) (hm : 1 + 1 ≤ fr ∧ 8 + (6 + 11) + 22 ≤ lo) (hr : (rest.map fun v => v.category).sum ≤ 8) (hf : zbd (f_M_ravine p1 p2 p3 p4 p5 σ) kf = some o2) (K : ∀ (r : Int32) (σ' : zS), kf r σ' = some o2 → V l d F 0 0 (MW d h σ') lv pc' (.int r :: rest)) : V l d F 0 0 (MW d h σ) lv pc (.int p5 :: .int p4 :: .int p3 :: .int p2 :: .int p1 :: .ref (h 0) :: rest) := by
  obtain ⟨q, h1, h2⟩ := zbd_some hf
  exact zr_callV y_M_ravine ⟨q_1370, q_1371⟩ 0 rfl rfl (As := [.int p1, .int p2, .int p3, .int p4, .int p5]) (m_M_ravine h1) rfl rfl pc' C hd hp hq hm hr (K _ _ h2)
/-! StepsBeyondModel.cost(III)I -/
def f_M_cost_71 (k6 : Int32 → Int32 → Int32 → Int32 → Int32 → zS → Option (Int32 × zS)) (x1 : Int32) (x2 : Int32) (x3 : Int32) (x5 : Int32) (y0 : Int32) (y1 : Int32) (σ : zS) : Option (Int32 × zS) :=
  zlt (y0 + y1) fun v1 => 
  k6 x1 x2 x3 v1 (x5 + 1) σ
set_option maxRecDepth 4000 in
theorem w_M_cost_71 {l : Launch} {d : zD} {F : zF} {h : Nat → Nat} {out : Int32 × zS}  {k6 : Int32 → Int32 → Int32 → Int32 → Int32 → zS → Option (Int32 × zS)} (C : zOk d F RX11 cX11_cost 6 1 22) (T : zRt d F (some .int) (some (.int out.1)) (MW d h out.2)) (H6 : ∀ (x1 : Int32) (x2 : Int32) (x3 : Int32) (x4 : Int32) (x5 : Int32) (σ : zS), k6 x1 x2 x3 x4 x5 σ = some out → V l d F 0 0 (MW d h σ) [some (.ref (h 0)), some (.int x1), some (.int x2), some (.int x3), some (.int x4), some (.int x5)] 6 []) (x1 : Int32) (x2 : Int32) (x3 : Int32) (x5 : Int32) (y0 : Int32) (y1 : Int32) (σ : zS) (hf : f_M_cost_71 k6 x1 x2 x3 x5 y0 y1 σ = some out) : V l d F 0 0 (MW d h σ) [some (.ref (h 0)), some (.int x1), some (.int x2), some (.int x3), none, some (.int x5)] 71 [.int y1, .int y0] := by
  unfold f_M_cost_71 at hf
  refine zr_iadd 72 C (by decide +kernel) rfl ?_
  refine zr_name hf (fun v1 hf => ?_)
  refine zr_istore 4 [some (.ref (h 0)), some (.int x1), some (.int x2), some (.int x3), some (.int v1), some (.int x5)] 74 C (by decide +kernel) rfl (by decide) rfl rfl ?_
  refine zr_iinc (j := 1) 5 [some (.ref (h 0)), some (.int x1), some (.int x2), some (.int x3), some (.int v1), some (.int (x5 + 1))] 77 C (by decide +kernel) rfl rfl rfl (by decide) rfl rfl ?_
  refine zr_goto (off := -71) 6 C (by decide +kernel) (by decide) ?_
  exact H6 _ _ _ _ _ _ hf
def f_M_cost_70 (k6 : Int32 → Int32 → Int32 → Int32 → Int32 → zS → Option (Int32 × zS)) (x1 : Int32) (x2 : Int32) (x3 : Int32) (x5 : Int32) (y0 : Int32) (σ : zS) : Option (Int32 × zS) :=
  f_M_cost_71 k6 x1 x2 x3 x5 y0 0 σ
set_option maxRecDepth 4000 in
theorem w_M_cost_70 {l : Launch} {d : zD} {F : zF} {h : Nat → Nat} {out : Int32 × zS}  {k6 : Int32 → Int32 → Int32 → Int32 → Int32 → zS → Option (Int32 × zS)} (C : zOk d F RX11 cX11_cost 6 1 22) (T : zRt d F (some .int) (some (.int out.1)) (MW d h out.2)) (H6 : ∀ (x1 : Int32) (x2 : Int32) (x3 : Int32) (x4 : Int32) (x5 : Int32) (σ : zS), k6 x1 x2 x3 x4 x5 σ = some out → V l d F 0 0 (MW d h σ) [some (.ref (h 0)), some (.int x1), some (.int x2), some (.int x3), some (.int x4), some (.int x5)] 6 []) (x1 : Int32) (x2 : Int32) (x3 : Int32) (x5 : Int32) (y0 : Int32) (σ : zS) (hf : f_M_cost_70 k6 x1 x2 x3 x5 y0 σ = some out) : V l d F 0 0 (MW d h σ) [some (.ref (h 0)), some (.int x1), some (.int x2), some (.int x3), none, some (.int x5)] 70 [.int y0] := by
  unfold f_M_cost_70 at hf
  refine zr_iconst (v := 0) 0 71 C (by decide +kernel) rfl rfl ?_
  exact w_M_cost_71 C T H6 _ _ _ _ _ _ _ hf
def f_M_cost_6b (k6 : Int32 → Int32 → Int32 → Int32 → Int32 → zS → Option (Int32 × zS)) (x1 : Int32) (x2 : Int32) (x3 : Int32) (x4 : Int32) (x5 : Int32) (σ : zS) : Option (Int32 × zS) :=
  (if (σ.1 8) ≤ x5 then
  some (x4, σ)
  else
  zin x5 6 ((if (σ.2 6 x5.toNatClampNeg) = x1 then
  zin x5 6 ((if (σ.2 7 x5.toNatClampNeg) = x2 then
  zin x5 6 (zin x5 6 (zbd (f_M_in x3 (σ.2 8 x5.toNatClampNeg) (σ.2 9 x5.toNatClampNeg) σ) fun r2 σ1 =>
  (if r2 = 0 then
  f_M_cost_70 k6 x1 x2 x3 x5 x4 σ1
  else
  zin x5 6 (f_M_cost_71 k6 x1 x2 x3 x5 x4 (σ1.2 10 x5.toNatClampNeg) σ1))))
  else
  f_M_cost_70 k6 x1 x2 x3 x5 x4 σ))
  else
  f_M_cost_70 k6 x1 x2 x3 x5 x4 σ)))
set_option maxRecDepth 4000 in
theorem w_M_cost_6b {l : Launch} {d : zD} {F : zF} {h : Nat → Nat} {out : Int32 × zS}  {k6 : Int32 → Int32 → Int32 → Int32 → Int32 → zS → Option (Int32 × zS)} (C : zOk d F RX11 cX11_cost 6 1 22) (T : zRt d F (some .int) (some (.int out.1)) (MW d h out.2)) (H6 : ∀ (x1 : Int32) (x2 : Int32) (x3 : Int32) (x4 : Int32) (x5 : Int32) (σ : zS), k6 x1 x2 x3 x4 x5 σ = some out → V l d F 0 0 (MW d h σ) [some (.ref (h 0)), some (.int x1), some (.int x2), some (.int x3), some (.int x4), some (.int x5)] 6 []) (x1 : Int32) (x2 : Int32) (x3 : Int32) (x4 : Int32) (x5 : Int32) (σ : zS) (hf : f_M_cost_6b k6 x1 x2 x3 x4 x5 σ = some out) : V l d F 0 0 (MW d h σ) [some (.ref (h 0)), some (.int x1), some (.int x2), some (.int x3), some (.int x4), some (.int x5)] 6 [] := by
  unfold f_M_cost_6b at hf
  refine zr_iload 5 8 C (by decide +kernel) rfl rfl ?_
  refine zr_aload_n 0 9 C (by decide +kernel) rfl rfl ?_
  refine mg_0_8 (idx := 229) 12 C (by decide +kernel) rfl q_999 ?_
  refine zr_icmp_ge (off := 68) 80 15 C (by decide +kernel) (by decide) rfl hf (fun hf => ?_) (fun hf => ?_)
  · refine zr_iload 4 82 C (by decide +kernel) rfl rfl ?_
    obtain rfl := Option.some.inj hf
    exact zr_iret C (by decide +kernel) T
  · refine zr_iload 4 17 C (by decide +kernel) rfl rfl ?_
    refine zr_aload_n 0 18 C (by decide +kernel) rfl rfl ?_
    refine mg_0_9 (idx := 25) 21 C (by decide +kernel) rfl q_1000 ?_
    refine zr_iload 5 23 C (by decide +kernel) rfl rfl ?_
    refine ml_6 24 C (by decide +kernel) rfl hf (fun hf => ?_)
    refine zr_iload_n 1 25 C (by decide +kernel) rfl rfl ?_
    refine zr_icmp_ne (off := 45) 70 28 C (by decide +kernel) (by decide) rfl hf (fun hf => ?_) (fun hf => ?_)
    · refine zr_less (zA (zA (zA (zA (zN (zA zE)))))) ?_
      exact w_M_cost_70 C T H6 _ _ _ _ _ _ hf
    · refine zr_aload_n 0 29 C (by decide +kernel) rfl rfl ?_
      refine mg_0_10 (idx := 28) 32 C (by decide +kernel) rfl q_1001 ?_
      refine zr_iload 5 34 C (by decide +kernel) rfl rfl ?_
      refine ml_7 35 C (by decide +kernel) rfl hf (fun hf => ?_)
      refine zr_iload_n 2 36 C (by decide +kernel) rfl rfl ?_
      refine zr_icmp_ne (off := 34) 70 39 C (by decide +kernel) (by decide) rfl hf (fun hf => ?_) (fun hf => ?_)
      · refine zr_less (zA (zA (zA (zA (zN (zA zE)))))) ?_
        exact w_M_cost_70 C T H6 _ _ _ _ _ _ hf
      · refine zr_iload_n 3 40 C (by decide +kernel) rfl rfl ?_
        refine zr_aload_n 0 41 C (by decide +kernel) rfl rfl ?_
        refine mg_0_11 (idx := 31) 44 C (by decide +kernel) rfl q_1002 ?_
        refine zr_iload 5 46 C (by decide +kernel) rfl rfl ?_
        refine ml_8 47 C (by decide +kernel) rfl hf (fun hf => ?_)
        refine zr_aload_n 0 48 C (by decide +kernel) rfl rfl ?_
        refine mg_0_12 (idx := 34) 51 C (by decide +kernel) rfl q_1003 ?_
        refine zr_iload 5 53 C (by decide +kernel) rfl rfl ?_
        refine ml_9 54 C (by decide +kernel) rfl hf (fun hf => ?_)
        refine k_M_in (idx := 139) 57 C (by decide +kernel) rfl q_1181 (zb2 rfl rfl) (Nat.le_of_ble_eq_true rfl) hf (fun r2 σ1 hf => ?_)
        refine zr_if_eq (off := 13) 70 60 C (by decide +kernel) (by decide) rfl hf (fun hf => ?_) (fun hf => ?_)
        · refine zr_less (zA (zA (zA (zA (zN (zA zE)))))) ?_
          exact w_M_cost_70 C T H6 _ _ _ _ _ _ hf
        · refine zr_aload_n 0 61 C (by decide +kernel) rfl rfl ?_
          refine mg_0_13 (idx := 37) 64 C (by decide +kernel) rfl q_1004 ?_
          refine zr_iload 5 66 C (by decide +kernel) rfl rfl ?_
          refine ml_10 67 C (by decide +kernel) rfl hf (fun hf => ?_)
          refine zr_goto (off := 4) 71 C (by decide +kernel) (by decide) ?_
          refine zr_less (zA (zA (zA (zA (zN (zA zE)))))) ?_
          exact w_M_cost_71 C T H6 _ _ _ _ _ _ _ hf
def f_M_cost_6  : Nat → Int32 → Int32 → Int32 → Int32 → Int32 → zS → Option (Int32 × zS)
  | 0, _, _, _, _, _, _ => none
  | n + 1, x1, x2, x3, x4, x5,  σ => f_M_cost_6b (fun x1 x2 x3 x4 x5 σ => f_M_cost_6  n x1 x2 x3 x4 x5 σ) x1 x2 x3 x4 x5 σ
theorem w_M_cost_6 {l : Launch} {d : zD} {F : zF} {h : Nat → Nat} {out : Int32 × zS}   (C : zOk d F RX11 cX11_cost 6 1 22) (T : zRt d F (some .int) (some (.int out.1)) (MW d h out.2))  : ∀ (n : Nat) (x1 : Int32) (x2 : Int32) (x3 : Int32) (x4 : Int32) (x5 : Int32) (σ : zS), f_M_cost_6  n x1 x2 x3 x4 x5 σ = some out → V l d F 0 0 (MW d h σ) [some (.ref (h 0)), some (.int x1), some (.int x2), some (.int x3), some (.int x4), some (.int x5)] 6 [] := by
  intro n
  induction n with
  | zero =>
    intro x1 x2 x3 x4 x5 σ hf
    cases hf
  | succ n ih =>
    intro x1 x2 x3 x4 x5 σ hf
    exact w_M_cost_6b C T ih x1 x2 x3 x4 x5 σ hf
def f_M_cost (p1 : Int32) (p2 : Int32) (p3 : Int32) (σ : zS) : Option (Int32 × zS) :=
  f_M_cost_6 zfu p1 p2 p3 1 0 σ
set_option maxRecDepth 4000 in
theorem m_M_cost {l : Launch} {d : zD} {h : Nat → Nat} {out : Int32 × zS} {σ : zS} {p1 : Int32} {p2 : Int32} {p3 : Int32} (hf : f_M_cost p1 p2 p3 σ = some out) : zM l yX11_cost cX11_cost 6 (some .int) 1 22 d [.ref (h 0), .int p1, .int p2, .int p3] (MW d h σ) (MW d h out.2) (some (.int out.1)) := by
  refine zM_of [some (.ref (h 0)), some (.int p1), some (.int p2), some (.int p3), none, none] (by decide +kernel) rfl (Nat.le_of_ble_eq_true rfl) (fun F C T => ?_)
  unfold f_M_cost at hf
  refine zr_iconst (v := 1) 1 1 C (by decide +kernel) rfl rfl ?_
  refine zr_istore 4 [some (.ref (h 0)), some (.int p1), some (.int p2), some (.int p3), some (.int 1), none] 3 C (by decide +kernel) rfl (by decide) rfl rfl ?_
  refine zr_iconst (v := 0) 0 4 C (by decide +kernel) rfl rfl ?_
  refine zr_istore 5 [some (.ref (h 0)), some (.int p1), some (.int p2), some (.int p3), some (.int 1), some (.int 0)] 6 C (by decide +kernel) rfl (by decide) rfl rfl ?_
  exact w_M_cost_6 C T zfu _ _ _ _ _ _ hf
theorem y_M_cost : zY yX11_cost cX11_cost 6 (some .int) 3 := ⟨q_1385, q_90, by decide +kernel, by decide +kernel, by decide +kernel⟩
theorem k_M_cost {l : Launch} {d : zD} {F : zF} {h : Nat → Nat} {σ : zS} {lv : List (Option Value)} {pc : Nat} {own : String} {cc : ByteArray} {nL fr lo idx : Nat} {rest : List Value} {β : Type} {kf : Int32 → zS → Option β} {o2 : β}  {p1 : Int32} {p2 : Int32} {p3 : Int32} (pc' : Nat) (C : zOk d F own cc nL fr lo) (hd : decode cc pc = .ok (.invokevirtual idx, 3)) (hp : pc + 3 = pc') (hq : Cond.methodLink own idx yX11_cost ∈ zW) (hm : 1 + 1 ≤ fr ∧ 8 + (6 + 11) + 22 ≤ lo) (hr : (rest.map fun v => v.category).sum ≤ 8) (hf : zbd (f_M_cost p1 p2 p3 σ) kf = some o2) (K : ∀ (r : Int32) (σ' : zS), kf r σ' = some o2 → V l d F 0 0 (MW d h σ') lv pc' (.int r :: rest)) : V l d F 0 0 (MW d h σ) lv pc (.int p3 :: .int p2 :: .int p1 :: .ref (h 0) :: rest) := by
  obtain ⟨q, h1, h2⟩ := zbd_some hf
  exact zr_callV y_M_cost ⟨q_1384, q_65⟩ 0 rfl rfl (As := [.int p1, .int p2, .int p3]) (m_M_cost h1) rfl rfl pc' C hd hp hq hm hr (K _ _ h2)
/-! StepsBeyondModel.tries(III)V -/
def f_M_tries (p1 : Int32) (p2 : Int32) (p3 : Int32) (σ : zS) : Option (Int32 × zS) :=
  zin p1 1600 (zin p2 1600 ((if (σ.2 28 p2.toNatClampNeg) ≤ ((σ.2 28 p1.toNatClampNeg) + p3) then
  some (0, σ)
  else
  zin p1 1600 (zin p2 1600 (zlt (zsa σ 28 p2 ((σ.2 28 p1.toNatClampNeg) + p3)) fun σ1 =>
  zin p2 1600 ((if (σ1.2 30 p2.toNatClampNeg) = 0 then
  zin p2 1600 (zlt (zsa σ1 30 p2 (vp_nar .boolean 1)) fun σ2 =>
  zin (zrem ((σ2.1 57) + (σ2.1 58)) 1600) 1600 (zlt (zsa σ2 29 (zrem ((σ2.1 57) + (σ2.1 58)) 1600) p2) fun σ3 =>
  zlt (zsg σ3 58 ((σ3.1 58) + 1)) fun σ4 =>
  some (0, σ4)))
  else
  some (0, σ1))))))))
set_option maxRecDepth 4000 in
theorem m_M_tries {l : Launch} {d : zD} {h : Nat → Nat} {out : Int32 × zS} {σ : zS} {p1 : Int32} {p2 : Int32} {p3 : Int32} (hf : f_M_tries p1 p2 p3 σ = some out) : zM l yX11_tries cX11_tries 4 none 0 0 d [.ref (h 0), .int p1, .int p2, .int p3] (MW d h σ) (MW d h out.2) none := by
  refine zM_of [some (.ref (h 0)), some (.int p1), some (.int p2), some (.int p3)] (by decide +kernel) rfl (Nat.le_of_ble_eq_true rfl) (fun F C T => ?_)
  unfold f_M_tries at hf
  refine zr_aload_n 0 1 C (by decide +kernel) rfl rfl ?_
  refine mg_0_54 (idx := 119) 4 C (by decide +kernel) rfl q_1045 ?_
  refine zr_iload_n 1 5 C (by decide +kernel) rfl rfl ?_
  refine ml_28 6 C (by decide +kernel) rfl hf (fun hf => ?_)
  refine zr_iload_n 3 7 C (by decide +kernel) rfl rfl ?_
  refine zr_iadd 8 C (by decide +kernel) rfl ?_
  refine zr_aload_n 0 9 C (by decide +kernel) rfl rfl ?_
  refine mg_0_54 (idx := 119) 12 C (by decide +kernel) rfl q_1045 ?_
  refine zr_iload_n 2 13 C (by decide +kernel) rfl rfl ?_
  refine ml_28 14 C (by decide +kernel) rfl hf (fun hf => ?_)
  refine zr_icmp_ge (off := 62) 76 17 C (by decide +kernel) (by decide) rfl hf (fun hf => ?_) (fun hf => ?_)
  · obtain rfl := Option.some.inj hf
    exact zr_vret C (by decide +kernel) T
  · refine zr_aload_n 0 18 C (by decide +kernel) rfl rfl ?_
    refine mg_0_54 (idx := 119) 21 C (by decide +kernel) rfl q_1045 ?_
    refine zr_iload_n 2 22 C (by decide +kernel) rfl rfl ?_
    refine zr_aload_n 0 23 C (by decide +kernel) rfl rfl ?_
    refine mg_0_54 (idx := 119) 26 C (by decide +kernel) rfl q_1045 ?_
    refine zr_iload_n 1 27 C (by decide +kernel) rfl rfl ?_
    refine ml_28 28 C (by decide +kernel) rfl hf (fun hf => ?_)
    refine zr_iload_n 3 29 C (by decide +kernel) rfl rfl ?_
    refine zr_iadd 30 C (by decide +kernel) rfl ?_
    refine ms_28 31 C (by decide +kernel) rfl hf (fun σ1 hf => ?_)
    refine zr_aload_n 0 32 C (by decide +kernel) rfl rfl ?_
    refine mg_0_56 (idx := 125) 35 C (by decide +kernel) rfl q_1047 ?_
    refine zr_iload_n 2 36 C (by decide +kernel) rfl rfl ?_
    refine ml_30 37 C (by decide +kernel) rfl hf (fun hf => ?_)
    refine zr_if_ne (off := 39) 76 40 C (by decide +kernel) (by decide) rfl hf (fun hf => ?_) (fun hf => ?_)
    · obtain rfl := Option.some.inj hf
      exact zr_vret C (by decide +kernel) T
    · refine zr_aload_n 0 41 C (by decide +kernel) rfl rfl ?_
      refine mg_0_56 (idx := 125) 44 C (by decide +kernel) rfl q_1047 ?_
      refine zr_iload_n 2 45 C (by decide +kernel) rfl rfl ?_
      refine zr_iconst (v := 1) 1 46 C (by decide +kernel) rfl rfl ?_
      refine ms_30 47 C (by decide +kernel) rfl hf (fun σ2 hf => ?_)
      refine zr_aload_n 0 48 C (by decide +kernel) rfl rfl ?_
      refine mg_0_55 (idx := 122) 51 C (by decide +kernel) rfl q_1046 ?_
      refine zr_aload_n 0 52 C (by decide +kernel) rfl rfl ?_
      refine mg_0_57 (idx := 311) 55 C (by decide +kernel) rfl q_1048 ?_
      refine zr_aload_n 0 56 C (by decide +kernel) rfl rfl ?_
      refine mg_0_58 (idx := 314) 59 C (by decide +kernel) rfl q_1049 ?_
      refine zr_iadd 60 C (by decide +kernel) rfl ?_
      refine zr_sipush (v := 1600) 1600 63 C (by decide +kernel) rfl rfl ?_
      refine zr_irem 64 C (by decide +kernel) rfl (by decide) ?_
      refine zr_iload_n 2 65 C (by decide +kernel) rfl rfl ?_
      refine ms_29 66 C (by decide +kernel) rfl hf (fun σ3 hf => ?_)
      refine zr_aload_n 0 67 C (by decide +kernel) rfl rfl ?_
      refine zr_dup 68 C (by decide +kernel) rfl rfl ?_
      refine mg_0_58 (idx := 314) 71 C (by decide +kernel) rfl q_1049 ?_
      refine zr_iconst (v := 1) 1 72 C (by decide +kernel) rfl rfl ?_
      refine zr_iadd 73 C (by decide +kernel) rfl ?_
      refine mp_0_58 (idx := 314) 76 C (by decide +kernel) rfl q_1049 hf (fun σ4 hf => ?_)
      obtain rfl := Option.some.inj hf
      exact zr_vret C (by decide +kernel) T
theorem y_M_tries : zY yX11_tries cX11_tries 4 none 3 := ⟨q_1389, q_90, by decide +kernel, by decide +kernel, by decide +kernel⟩
theorem k_M_tries {l : Launch} {d : zD} {F : zF} {h : Nat → Nat} {σ : zS} {lv : List (Option Value)} {pc : Nat} {own : String} {cc : ByteArray} {nL fr lo idx : Nat} {rest : List Value} {β : Type} {kf : Int32 → zS → Option β} {o2 : β}  {p1 : Int32} {p2 : Int32} {p3 : Int32} (pc' : Nat) (C : zOk d F own cc nL fr lo) (hd : decode cc pc = .ok (.invokevirtual idx, 3)) (hp : pc + 3 = pc') (hq : Cond.methodLink own idx yX11_tries ∈ zW) (hm : 0 + 1 ≤ fr ∧ 8 + (4 + 11) + 0 ≤ lo) (hr : (rest.map fun v => v.category).sum ≤ 8) (hf : zbd (f_M_tries p1 p2 p3 σ) kf = some o2) (K : ∀ (r : Int32) (σ' : zS), kf r σ' = some o2 → V l d F 0 0 (MW d h σ') lv pc' (rest)) : V l d F 0 0 (MW d h σ) lv pc (.int p3 :: .int p2 :: .int p1 :: .ref (h 0) :: rest) := by
  obtain ⟨q, h1, h2⟩ := zbd_some hf
  exact zr_callV y_M_tries ⟨q_1388, q_66⟩ 0 rfl rfl (As := [.int p1, .int p2, .int p3]) (m_M_tries h1) rfl rfl pc' C hd hp hq hm hr (K _ _ h2)
