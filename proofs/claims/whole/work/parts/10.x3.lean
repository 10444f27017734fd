/-! StepsBeyond$Reader.clear()V -/
def f_Rd_clear  (σ : zS) : Option (Int32 × zS) :=
  zlt (zsg σ 102 0) fun σ1 =>
  some (0, σ1)
set_option maxRecDepth 4000 in
theorem m_Rd_clear {l : Launch} {d : zD} {h : Nat → Nat} {out : Int32 × zS} {σ : zS} {ad av : Nat → Nat}  (E : zXe d ad av) (hf : f_Rd_clear  σ = some out) : zM l yX4_clear cX4_clear 1 none 0 0 d [.ref (h 1)] (XW d h σ) (XW d h out.2) none := by
  refine zM_of [some (.ref (h 1))] (by decide +kernel) rfl (Nat.le_of_ble_eq_true rfl) (fun F C T => ?_)
  unfold f_Rd_clear at hf
  refine zr_aload_n 0 1 C (by decide +kernel) rfl rfl ?_
  refine zr_iconst (v := 0) 0 2 C (by decide +kernel) rfl rfl ?_
  refine xp_1_2 (idx := 18) 5 C (by decide +kernel) rfl q_108 hf (fun σ1 hf => ?_)
  obtain rfl := Option.some.inj hf
  exact zr_vret C (by decide +kernel) T
theorem y_Rd_clear : zY yX4_clear cX4_clear 1 none 0 := ⟨q_517, q_73, by decide +kernel, by decide +kernel, by decide +kernel⟩
theorem k_Rd_clear {l : Launch} {d : zD} {F : zF} {h : Nat → Nat} {σ : zS} {lv : List (Option Value)} {pc : Nat} {own : String} {cc : ByteArray} {nL fr lo idx : Nat} {rest : List Value} {β : Type} {kf : Int32 → zS → Option β} {o2 : β} {ad av : Nat → Nat}   (pc' : Nat) (C : zOk d F own cc nL fr lo) (E : zXe d ad av) (hd : decode cc pc = .ok (.invokevirtual idx, 3)) (hp : pc + 3 = pc') (hq : Cond.methodLink own idx yX4_clear ∈ zW) (hm : 0 + 1 ≤ fr ∧ 8 + (1 + 11) + 0 ≤ lo) (hr : (rest.map fun v => v.category).sum ≤ 8) (hf : zbd (f_Rd_clear  σ) kf = some o2) (K : ∀ (r : Int32) (σ' : zS), kf r σ' = some o2 → V l d F 0 0 (XW d h σ') lv pc' (rest)) : V l d F 0 0 (XW d h σ) lv pc (.ref (h 1) :: rest) := by
  obtain ⟨q, h1, h2⟩ := zbd_some hf
  exact zr_callV y_Rd_clear ⟨q_515, q_516⟩ 1 rfl rfl (As := []) (m_Rd_clear E h1) rfl rfl pc' C hd hp hq hm hr (K _ _ h2)
/-! StepsBeyond$Reader.write(I)V -/
def f_Rd_write (p1 : Int32) (σ : zS) : Option (Int32 × zS) :=
  (if 160 ≤ (σ.1 103) then
  some (0, σ)
  else
  zin (σ.1 103) 160 (zlt (zsa σ 16 (σ.1 103) p1) fun σ1 =>
  zlt (zsg σ1 103 ((σ1.1 103) + 1)) fun σ2 =>
  some (0, σ2)))
set_option maxRecDepth 4000 in
theorem m_Rd_write {l : Launch} {d : zD} {h : Nat → Nat} {out : Int32 × zS} {σ : zS} {ad av : Nat → Nat} {p1 : Int32} (E : zXe d ad av) (hf : f_Rd_write p1 σ = some out) : zM l yX4_write cX4_write 2 none 0 0 d [.ref (h 1), .int p1] (XW d h σ) (XW d h out.2) none := by
  refine zM_of [some (.ref (h 1)), some (.int p1)] (by decide +kernel) rfl (Nat.le_of_ble_eq_true rfl) (fun F C T => ?_)
  unfold f_Rd_write at hf
  refine zr_aload_n 0 1 C (by decide +kernel) rfl rfl ?_
  refine xg_1_3 (idx := 22) 4 C (by decide +kernel) rfl q_111 ?_
  refine zr_sipush (v := 160) 160 7 C (by decide +kernel) rfl rfl ?_
  refine zr_icmp_ge (off := 23) 30 10 C (by decide +kernel) (by decide) rfl hf (fun hf => ?_) (fun hf => ?_)
  · obtain rfl := Option.some.inj hf
    exact zr_vret C (by decide +kernel) T
  · refine zr_aload_n 0 11 C (by decide +kernel) rfl rfl ?_
    refine xg_1_1 (idx := 15) 14 C (by decide +kernel) rfl q_106 ?_
    refine zr_aload_n 0 15 C (by decide +kernel) rfl rfl ?_
    refine xg_1_3 (idx := 22) 18 C (by decide +kernel) rfl q_111 ?_
    refine zr_iload_n 1 19 C (by decide +kernel) rfl rfl ?_
    refine xs_16 20 C (by decide +kernel) rfl hf (fun σ1 hf => ?_)
    refine zr_aload_n 0 21 C (by decide +kernel) rfl rfl ?_
    refine zr_dup 22 C (by decide +kernel) rfl rfl ?_
    refine xg_1_3 (idx := 22) 25 C (by decide +kernel) rfl q_111 ?_
    refine zr_iconst (v := 1) 1 26 C (by decide +kernel) rfl rfl ?_
    refine zr_iadd 27 C (by decide +kernel) rfl ?_
    refine xp_1_3 (idx := 22) 30 C (by decide +kernel) rfl q_111 hf (fun σ2 hf => ?_)
    obtain rfl := Option.some.inj hf
    exact zr_vret C (by decide +kernel) T
theorem y_Rd_write : zY yX4_write cX4_write 2 none 1 := ⟨q_487, q_73, by decide +kernel, by decide +kernel, by decide +kernel⟩
theorem k_Rd_write {l : Launch} {d : zD} {F : zF} {h : Nat → Nat} {σ : zS} {lv : List (Option Value)} {pc : Nat} {own : String} {cc : ByteArray} {nL fr lo idx : Nat} {rest : List Value} {β : Type} {kf : Int32 → zS → Option β} {o2 : β} {ad av : Nat → Nat}  {p1 : Int32} (pc' : Nat) (C : zOk d F own cc nL fr lo) (E : zXe d ad av) (hd : decode cc pc = .ok (.invokevirtual idx, 3)) (hp : pc + 3 = pc') (hq : Cond.methodLink own idx yX4_write ∈ zW) (hm : 0 + 1 ≤ fr ∧ 8 + (2 + 11) + 0 ≤ lo) (hr : (rest.map fun v => v.category).sum ≤ 8) (hf : zbd (f_Rd_write p1 σ) kf = some o2) (K : ∀ (r : Int32) (σ' : zS), kf r σ' = some o2 → V l d F 0 0 (XW d h σ') lv pc' (rest)) : V l d F 0 0 (XW d h σ) lv pc (.int p1 :: .ref (h 1) :: rest) := by
  obtain ⟨q, h1, h2⟩ := zbd_some hf
  exact zr_callV y_Rd_write ⟨q_486, q_12⟩ 1 rfl rfl (As := [.int p1]) (m_Rd_write E h1) rfl rfl pc' C hd hp hq hm hr (K _ _ h2)
/-! StepsBeyond$Reader.isLetter(I)Z -/
def f_Rd_isLetter (p0 : Int32) (σ : zS) : Option (Int32 × zS) :=
  (if p0 < 97 then
  some (0, σ)
  else
  (if 122 < p0 then
  some (0, σ)
  else
  some (1, σ)))
set_option maxRecDepth 4000 in
theorem m_Rd_isLetter {l : Launch} {d : zD} {h : Nat → Nat} {out : Int32 × zS} {σ : zS} {ad av : Nat → Nat} {p0 : Int32} (E : zXe d ad av) (hf : f_Rd_isLetter p0 σ = some out) : zM l yX4_isLetter cX4_isLetter 1 (some .boolean) 0 0 d [.int p0] (XW d h σ) (XW d h out.2) (some (.int out.1)) := by
  refine zM_of [some (.int p0)] (by decide +kernel) rfl (Nat.le_of_ble_eq_true rfl) (fun F C T => ?_)
  unfold f_Rd_isLetter at hf
  refine zr_iload_n 0 1 C (by decide +kernel) rfl rfl ?_
  refine zr_bipush (v := 97) 97 3 C (by decide +kernel) rfl rfl ?_
  refine zr_icmp_lt (off := 13) 16 6 C (by decide +kernel) (by decide) rfl hf (fun hf => ?_) (fun hf => ?_)
  · refine zr_iconst (v := 0) 0 17 C (by decide +kernel) rfl rfl ?_
    obtain rfl := Option.some.inj hf
    exact zr_zret C (by decide +kernel) rfl T
  · refine zr_iload_n 0 7 C (by decide +kernel) rfl rfl ?_
    refine zr_bipush (v := 122) 122 9 C (by decide +kernel) rfl rfl ?_
    refine zr_icmp_gt (off := 7) 16 12 C (by decide +kernel) (by decide) rfl hf (fun hf => ?_) (fun hf => ?_)
    · refine zr_iconst (v := 0) 0 17 C (by decide +kernel) rfl rfl ?_
      obtain rfl := Option.some.inj hf
      exact zr_zret C (by decide +kernel) rfl T
    · refine zr_iconst (v := 1) 1 13 C (by decide +kernel) rfl rfl ?_
      refine zr_goto (off := 4) 17 C (by decide +kernel) (by decide) ?_
      obtain rfl := Option.some.inj hf
      exact zr_zret C (by decide +kernel) rfl T
theorem y_Rd_isLetter : zY yX4_isLetter cX4_isLetter 1 (some .boolean) 1 := ⟨q_420, q_73, by decide +kernel, by decide +kernel, by decide +kernel⟩
theorem k_Rd_isLetter {l : Launch} {d : zD} {F : zF} {h : Nat → Nat} {σ : zS} {lv : List (Option Value)} {pc : Nat} {own : String} {cc : ByteArray} {nL fr lo idx : Nat} {rest : List Value} {β : Type} {kf : Int32 → zS → Option β} {o2 : β} {ad av : Nat → Nat}  {p0 : Int32} (pc' : Nat) (C : zOk d F own cc nL fr lo) (E : zXe d ad av) (hd : decode cc pc = .ok (.invokestatic idx, 3)) (hp : pc + 3 = pc') (hq : Cond.methodLink own idx yX4_isLetter ∈ zW) (hm : 0 + 1 ≤ fr ∧ 8 + (1 + 11) + 0 ≤ lo) (hr : (rest.map fun v => v.category).sum ≤ 8) (hf : zbd (f_Rd_isLetter p0 σ) kf = some o2) (K : ∀ (r : Int32) (σ' : zS), kf r σ' = some o2 → V l d F 0 0 (XW d h σ') lv pc' (.int r :: rest)) : V l d F 0 0 (XW d h σ) lv pc (.int p0 :: rest) := by
  obtain ⟨q, h1, h2⟩ := zbd_some hf
  exact zr_callS y_Rd_isLetter q_419 (As := [.int p0]) (m_Rd_isLetter E h1) rfl rfl pc' C hd hp hq hm hr (K _ _ h2)
/-! StepsBeyond$Reader.isDigit(I)Z -/
def f_Rd_isDigit (p0 : Int32) (σ : zS) : Option (Int32 × zS) :=
  (if p0 < 48 then
  some (0, σ)
  else
  (if 57 < p0 then
  some (0, σ)
  else
  some (1, σ)))
set_option maxRecDepth 4000 in
theorem m_Rd_isDigit {l : Launch} {d : zD} {h : Nat → Nat} {out : Int32 × zS} {σ : zS} {ad av : Nat → Nat} {p0 : Int32} (E : zXe d ad av) (hf : f_Rd_isDigit p0 σ = some out) : zM l yX4_isDigit cX4_isDigit 1 (some .boolean) 0 0 d [.int p0] (XW d h σ) (XW d h out.2) (some (.int out.1)) := by
  refine zM_of [some (.int p0)] (by decide +kernel) rfl (Nat.le_of_ble_eq_true rfl) (fun F C T => ?_)
  unfold f_Rd_isDigit at hf
  refine zr_iload_n 0 1 C (by decide +kernel) rfl rfl ?_
  refine zr_bipush (v := 48) 48 3 C (by decide +kernel) rfl rfl ?_
  refine zr_icmp_lt (off := 13) 16 6 C (by decide +kernel) (by decide) rfl hf (fun hf => ?_) (fun hf => ?_)
  · refine zr_iconst (v := 0) 0 17 C (by decide +kernel) rfl rfl ?_
    obtain rfl := Option.some.inj hf
    exact zr_zret C (by decide +kernel) rfl T
  · refine zr_iload_n 0 7 C (by decide +kernel) rfl rfl ?_
    refine zr_bipush (v := 57) 57 9 C (by decide +kernel) rfl rfl ?_
    refine zr_icmp_gt (off := 7) 16 12 C (by decide +kernel) (by decide) rfl hf (fun hf => ?_) (fun hf => ?_)
    · refine zr_iconst (v := 0) 0 17 C (by decide +kernel) rfl rfl ?_
      obtain rfl := Option.some.inj hf
      exact zr_zret C (by decide +kernel) rfl T
    · refine zr_iconst (v := 1) 1 13 C (by decide +kernel) rfl rfl ?_
      refine zr_goto (off := 4) 17 C (by decide +kernel) (by decide) ?_
      obtain rfl := Option.some.inj hf
      exact zr_zret C (by decide +kernel) rfl T
theorem y_Rd_isDigit : zY yX4_isDigit cX4_isDigit 1 (some .boolean) 1 := ⟨q_444, q_73, by decide +kernel, by decide +kernel, by decide +kernel⟩
theorem k_Rd_isDigit {l : Launch} {d : zD} {F : zF} {h : Nat → Nat} {σ : zS} {lv : List (Option Value)} {pc : Nat} {own : String} {cc : ByteArray} {nL fr lo idx : Nat} {rest : List Value} {β : Type} {kf : Int32 → zS → Option β} {o2 : β} {ad av : Nat → Nat}  {p0 : Int32} (pc' : Nat) (C : zOk d F own cc nL fr lo) (E : zXe d ad av) (hd : decode cc pc = .ok (.invokestatic idx, 3)) (hp : pc + 3 = pc') (hq : Cond.methodLink own idx yX4_isDigit ∈ zW) (hm : 0 + 1 ≤ fr ∧ 8 + (1 + 11) + 0 ≤ lo) (hr : (rest.map fun v => v.category).sum ≤ 8) (hf : zbd (f_Rd_isDigit p0 σ) kf = some o2) (K : ∀ (r : Int32) (σ' : zS), kf r σ' = some o2 → V l d F 0 0 (XW d h σ') lv pc' (.int r :: rest)) : V l d F 0 0 (XW d h σ) lv pc (.int p0 :: rest) := by
  obtain ⟨q, h1, h2⟩ := zbd_some hf
  exact zr_callS y_Rd_isDigit q_443 (As := [.int p0]) (m_Rd_isDigit E h1) rfl rfl pc' C hd hp hq hm hr (K _ _ h2)
/-! StepsBeyond$Reader.signOf(I)I -/
def f_Rd_signOf (p0 : Int32) (σ : zS) : Option (Int32 × zS) :=
  (if p0 = 40 then
  some (5, σ)
  else
  (if p0 = 41 then
  some (6, σ)
  else
  (if p0 = 42 then
  some (14, σ)
  else
  (if p0 = 43 then
  some (12, σ)
  else
  (if p0 = 45 then
  some (13, σ)
  else
  (if p0 = 59 then
  some (7, σ)
  else
  (if p0 = 60 then
  some (10, σ)
  else
  (if p0 = 61 then
  some (11, σ)
  else
  some (1, σ)))))))))
set_option maxRecDepth 4000 in
theorem m_Rd_signOf {l : Launch} {d : zD} {h : Nat → Nat} {out : Int32 × zS} {σ : zS} {ad av : Nat → Nat} {p0 : Int32} (E : zXe d ad av) (hf : f_Rd_signOf p0 σ = some out) : zM l yX4_signOf cX4_signOf 1 (some .int) 0 0 d [.int p0] (XW d h σ) (XW d h out.2) (some (.int out.1)) := by
  refine zM_of [some (.int p0)] (by decide +kernel) rfl (Nat.le_of_ble_eq_true rfl) (fun F C T => ?_)
  unfold f_Rd_signOf at hf
  refine zr_iload_n 0 1 C (by decide +kernel) rfl rfl ?_
  refine zr_tcase (dflt := 126) (lw := 40) (hi := 61) (offs := #[103, 105, 117, 111, 126, 114, 126, 126, 126, 126, 126, 126, 126, 126, 126, 126, 126, 126, 126, 108, 120, 123]) (len := 103) (off := 103) (j := 0) 40 104 C (by decide +kernel) (by decide) (by decide) rfl (by decide) hf (fun hf => ?_) (fun hn0 hf => ?_)
  · refine zr_iconst (v := 5) 5 105 C (by decide +kernel) rfl rfl ?_
    obtain rfl := Option.some.inj hf
    exact zr_iret C (by decide +kernel) T
  refine zr_tcase (dflt := 126) (lw := 40) (hi := 61) (offs := #[103, 105, 117, 111, 126, 114, 126, 126, 126, 126, 126, 126, 126, 126, 126, 126, 126, 126, 126, 108, 120, 123]) (len := 103) (off := 105) (j := 1) 41 106 C (by decide +kernel) (by decide) (by decide) rfl (by decide) hf (fun hf => ?_) (fun hn1 hf => ?_)
  · refine zr_bipush (v := 6) 6 108 C (by decide +kernel) rfl rfl ?_
    obtain rfl := Option.some.inj hf
    exact zr_iret C (by decide +kernel) T
  refine zr_tcase (dflt := 126) (lw := 40) (hi := 61) (offs := #[103, 105, 117, 111, 126, 114, 126, 126, 126, 126, 126, 126, 126, 126, 126, 126, 126, 126, 126, 108, 120, 123]) (len := 103) (off := 117) (j := 2) 42 118 C (by decide +kernel) (by decide) (by decide) rfl (by decide) hf (fun hf => ?_) (fun hn2 hf => ?_)
  · refine zr_bipush (v := 14) 14 120 C (by decide +kernel) rfl rfl ?_
    obtain rfl := Option.some.inj hf
    exact zr_iret C (by decide +kernel) T
  refine zr_tcase (dflt := 126) (lw := 40) (hi := 61) (offs := #[103, 105, 117, 111, 126, 114, 126, 126, 126, 126, 126, 126, 126, 126, 126, 126, 126, 126, 126, 108, 120, 123]) (len := 103) (off := 111) (j := 3) 43 112 C (by decide +kernel) (by decide) (by decide) rfl (by decide) hf (fun hf => ?_) (fun hn3 hf => ?_)
  · refine zr_bipush (v := 12) 12 114 C (by decide +kernel) rfl rfl ?_
    obtain rfl := Option.some.inj hf
    exact zr_iret C (by decide +kernel) T
  refine zr_tcase (dflt := 126) (lw := 40) (hi := 61) (offs := #[103, 105, 117, 111, 126, 114, 126, 126, 126, 126, 126, 126, 126, 126, 126, 126, 126, 126, 126, 108, 120, 123]) (len := 103) (off := 114) (j := 5) 45 115 C (by decide +kernel) (by decide) (by decide) rfl (by decide) hf (fun hf => ?_) (fun hn5 hf => ?_)
  · refine zr_bipush (v := 13) 13 117 C (by decide +kernel) rfl rfl ?_
    obtain rfl := Option.some.inj hf
    exact zr_iret C (by decide +kernel) T
  refine zr_tcase (dflt := 126) (lw := 40) (hi := 61) (offs := #[103, 105, 117, 111, 126, 114, 126, 126, 126, 126, 126, 126, 126, 126, 126, 126, 126, 126, 126, 108, 120, 123]) (len := 103) (off := 108) (j := 19) 59 109 C (by decide +kernel) (by decide) (by decide) rfl (by decide) hf (fun hf => ?_) (fun hn19 hf => ?_)
  · refine zr_bipush (v := 7) 7 111 C (by decide +kernel) rfl rfl ?_
    obtain rfl := Option.some.inj hf
    exact zr_iret C (by decide +kernel) T
  refine zr_tcase (dflt := 126) (lw := 40) (hi := 61) (offs := #[103, 105, 117, 111, 126, 114, 126, 126, 126, 126, 126, 126, 126, 126, 126, 126, 126, 126, 126, 108, 120, 123]) (len := 103) (off := 120) (j := 20) 60 121 C (by decide +kernel) (by decide) (by decide) rfl (by decide) hf (fun hf => ?_) (fun hn20 hf => ?_)
  · refine zr_bipush (v := 10) 10 123 C (by decide +kernel) rfl rfl ?_
    obtain rfl := Option.some.inj hf
    exact zr_iret C (by decide +kernel) T
  refine zr_tcase (dflt := 126) (lw := 40) (hi := 61) (offs := #[103, 105, 117, 111, 126, 114, 126, 126, 126, 126, 126, 126, 126, 126, 126, 126, 126, 126, 126, 108, 120, 123]) (len := 103) (off := 123) (j := 21) 61 124 C (by decide +kernel) (by decide) (by decide) rfl (by decide) hf (fun hf => ?_) (fun hn21 hf => ?_)
  · refine zr_bipush (v := 11) 11 126 C (by decide +kernel) rfl rfl ?_
    obtain rfl := Option.some.inj hf
    exact zr_iret C (by decide +kernel) T
  refine zr_tdflt (dflt := 126) (lw := 40) (hi := 61) (offs := #[103, 105, 117, 111, 126, 114, 126, 126, 126, 126, 126, 126, 126, 126, 126, 126, 126, 126, 126, 108, 120, 123]) (len := 103) 127 C (by decide +kernel) (by decide) (by decide) (fun j hj hx => ?_) ?_
  · rcases (show j = 0 ∨ j = 1 ∨ j = 2 ∨ j = 3 ∨ j = 4 ∨ j = 5 ∨ j = 6 ∨ j = 7 ∨ j = 8 ∨ j = 9 ∨ j = 10 ∨ j = 11 ∨ j = 12 ∨ j = 13 ∨ j = 14 ∨ j = 15 ∨ j = 16 ∨ j = 17 ∨ j = 18 ∨ j = 19 ∨ j = 20 ∨ j = 21 by have hj2 : j < 22 := hj; omega) with rfl | rfl | rfl | rfl | rfl | rfl | rfl | rfl | rfl | rfl | rfl | rfl | rfl | rfl | rfl | rfl | rfl | rfl | rfl | rfl | rfl | rfl
    · exact absurd (z_ti (c := 40) (by decide) hx) hn0
    · exact absurd (z_ti (c := 41) (by decide) hx) hn1
    · exact absurd (z_ti (c := 42) (by decide) hx) hn2
    · exact absurd (z_ti (c := 43) (by decide) hx) hn3
    · rfl
    · exact absurd (z_ti (c := 45) (by decide) hx) hn5
    · rfl
    · rfl
    · rfl
    · rfl
    · rfl
    · rfl
    · rfl
    · rfl
    · rfl
    · rfl
    · rfl
    · rfl
    · rfl
    · exact absurd (z_ti (c := 59) (by decide) hx) hn19
    · exact absurd (z_ti (c := 60) (by decide) hx) hn20
    · exact absurd (z_ti (c := 61) (by decide) hx) hn21
  refine zr_iconst (v := 1) 1 128 C (by decide +kernel) rfl rfl ?_
  obtain rfl := Option.some.inj hf
  exact zr_iret C (by decide +kernel) T
theorem y_Rd_signOf : zY yX4_signOf cX4_signOf 1 (some .int) 1 := ⟨q_451, q_73, by decide +kernel, by decide +kernel, by decide +kernel⟩
theorem k_Rd_signOf {l : Launch} {d : zD} {F : zF} {h : Nat → Nat} {σ : zS} {lv : List (Option Value)} {pc : Nat} {own : String} {cc : ByteArray} {nL fr lo idx : Nat} {rest : List Value} {β : Type} {kf : Int32 → zS → Option β} {o2 : β} {ad av : Nat → Nat}  {p0 : Int32} (pc' : Nat) (C : zOk d F own cc nL fr lo) (E : zXe d ad av) (hd : decode cc pc = .ok (.invokestatic idx, 3)) (hp : pc + 3 = pc') (hq : Cond.methodLink own idx yX4_signOf ∈ zW) (hm : 0 + 1 ≤ fr ∧ 8 + (1 + 11) + 0 ≤ lo) (hr : (rest.map fun v => v.category).sum ≤ 8) (hf : zbd (f_Rd_signOf p0 σ) kf = some o2) (K : ∀ (r : Int32) (σ' : zS), kf r σ' = some o2 → V l d F 0 0 (XW d h σ') lv pc' (.int r :: rest)) : V l d F 0 0 (XW d h σ) lv pc (.int p0 :: rest) := by
  obtain ⟨q, h1, h2⟩ := zbd_some hf
  exact zr_callS y_Rd_signOf q_450 (As := [.int p0]) (m_Rd_signOf E h1) rfl rfl pc' C hd hp hq hm hr (K _ _ h2)
/-! StepsBeyond$Reader.takeNumber()V -/
def f_Rd_takeNumber_87  (y1 : Int32) (σ : zS) : Option (Int32 × zS) :=
  zlt (zsg σ 107 y1) fun σ1 =>
  some (0, σ1)
set_option maxRecDepth 4000 in
theorem w_Rd_takeNumber_87 {l : Launch} {d : zD} {F : zF} {h : Nat → Nat} {out : Int32 × zS} {ad av : Nat → Nat}   (C : zOk d F RX4 cX4_takeNumber 1 1 20) (T : zRt d F none none (XW d h out.2)) (E : zXe d ad av)  (y1 : Int32) (σ : zS) (hf : f_Rd_takeNumber_87  y1 σ = some out) : V l d F 0 0 (XW d h σ) [none] 87 [.int y1, .ref (h 1)] := by
  unfold f_Rd_takeNumber_87 at hf
  refine xp_1_7 (idx := 41) 90 C (by decide +kernel) rfl q_117 hf (fun σ1 hf => ?_)
  obtain rfl := Option.some.inj hf
  exact zr_vret C (by decide +kernel) T
def f_Rd_takeNumber_68   (σ : zS) : Option (Int32 × zS) :=
  (if 4 < ((σ.1 106) - (σ.1 105)) then
  f_Rd_takeNumber_87 1 σ
  else
  f_Rd_takeNumber_87 2 σ)
set_option maxRecDepth 4000 in
theorem w_Rd_takeNumber_68 {l : Launch} {d : zD} {F : zF} {h : Nat → Nat} {out : Int32 × zS} {ad av : Nat → Nat}   (C : zOk d F RX4 cX4_takeNumber 1 1 20) (T : zRt d F none none (XW d h out.2)) (E : zXe d ad av)   (σ : zS) (hf : f_Rd_takeNumber_68   σ = some out) : V l d F 0 0 (XW d h σ) [some (.ref (h 1))] 68 [] := by
  unfold f_Rd_takeNumber_68 at hf
  refine zr_aload_n 0 69 C (by decide +kernel) rfl rfl ?_
  refine zr_aload_n 0 70 C (by decide +kernel) rfl rfl ?_
  refine xg_1_6 (idx := 28) 73 C (by decide +kernel) rfl q_116 ?_
  refine zr_aload_n 0 74 C (by decide +kernel) rfl rfl ?_
  refine xg_1_5 (idx := 69) 77 C (by decide +kernel) rfl q_115 ?_
  refine zr_isub 78 C (by decide +kernel) rfl ?_
  refine zr_iconst (v := 4) 4 79 C (by decide +kernel) rfl rfl ?_
  refine zr_icmp_gt (off := 7) 86 82 C (by decide +kernel) (by decide) rfl hf (fun hf => ?_) (fun hf => ?_)
  · refine zr_iconst (v := 1) 1 87 C (by decide +kernel) rfl rfl ?_
    refine zr_less (zN zE) ?_
    exact w_Rd_takeNumber_87 C T E _ _ hf
  · refine zr_iconst (v := 2) 2 83 C (by decide +kernel) rfl rfl ?_
    refine zr_goto (off := 4) 87 C (by decide +kernel) (by decide) ?_
    refine zr_less (zN zE) ?_
    exact w_Rd_takeNumber_87 C T E _ _ hf
def f_Rd_takeNumber_5b (k5 : zS → Option (Int32 × zS))  (σ : zS) : Option (Int32 × zS) :=
  (if (σ.1 102) ≤ (σ.1 106) then
  f_Rd_takeNumber_68 σ
  else
  zin (σ.1 106) 160 (zbd (f_Rd_isDigit (σ.2 15 (σ.1 106).toNatClampNeg) σ) fun r2 σ1 =>
  (if r2 = 0 then
  f_Rd_takeNumber_68 σ1
  else
  zin (σ1.1 106) 160 (zlt (zsg σ1 108 ((((σ1.1 108) * 10) + (σ1.2 15 (σ1.1 106).toNatClampNeg)) - 48)) fun σ3 =>
  zlt (zsg σ3 106 ((σ3.1 106) + 1)) fun σ4 =>
  k5 σ4))))
set_option maxRecDepth 4000 in
theorem w_Rd_takeNumber_5b {l : Launch} {d : zD} {F : zF} {h : Nat → Nat} {out : Int32 × zS} {ad av : Nat → Nat}  {k5 : zS → Option (Int32 × zS)} (C : zOk d F RX4 cX4_takeNumber 1 1 20) (T : zRt d F none none (XW d h out.2)) (E : zXe d ad av) (H5 : ∀  (σ : zS), k5  σ = some out → V l d F 0 0 (XW d h σ) [some (.ref (h 1))] 5 [])  (σ : zS) (hf : f_Rd_takeNumber_5b k5  σ = some out) : V l d F 0 0 (XW d h σ) [some (.ref (h 1))] 5 [] := by
  unfold f_Rd_takeNumber_5b at hf
  refine zr_aload_n 0 6 C (by decide +kernel) rfl rfl ?_
  refine xg_1_6 (idx := 28) 9 C (by decide +kernel) rfl q_116 ?_
  refine zr_aload_n 0 10 C (by decide +kernel) rfl rfl ?_
  refine xg_1_2 (idx := 18) 13 C (by decide +kernel) rfl q_108 ?_
  refine zr_icmp_ge (off := 55) 68 16 C (by decide +kernel) (by decide) rfl hf (fun hf => ?_) (fun hf => ?_)
  · exact w_Rd_takeNumber_68 C T E _ hf
  · refine zr_aload_n 0 17 C (by decide +kernel) rfl rfl ?_
    refine xg_1_0 (idx := 9) 20 C (by decide +kernel) rfl q_105 ?_
    refine zr_aload_n 0 21 C (by decide +kernel) rfl rfl ?_
    refine xg_1_6 (idx := 28) 24 C (by decide +kernel) rfl q_116 ?_
    refine xl_15 25 C (by decide +kernel) rfl hf (fun hf => ?_)
    refine k_Rd_isDigit (idx := 78) 28 C E (by decide +kernel) rfl q_442 (zb2 rfl rfl) (Nat.le_of_ble_eq_true rfl) hf (fun r2 σ1 hf => ?_)
    refine zr_if_eq (off := 40) 68 31 C (by decide +kernel) (by decide) rfl hf (fun hf => ?_) (fun hf => ?_)
    · exact w_Rd_takeNumber_68 C T E _ hf
    · refine zr_aload_n 0 32 C (by decide +kernel) rfl rfl ?_
      refine zr_aload_n 0 33 C (by decide +kernel) rfl rfl ?_
      refine xg_1_8 (idx := 66) 36 C (by decide +kernel) rfl q_118 ?_
      refine zr_bipush (v := 10) 10 38 C (by decide +kernel) rfl rfl ?_
      refine zr_imul 39 C (by decide +kernel) rfl ?_
      refine zr_aload_n 0 40 C (by decide +kernel) rfl rfl ?_
      refine xg_1_0 (idx := 9) 43 C (by decide +kernel) rfl q_105 ?_
      refine zr_aload_n 0 44 C (by decide +kernel) rfl rfl ?_
      refine xg_1_6 (idx := 28) 47 C (by decide +kernel) rfl q_116 ?_
      refine xl_15 48 C (by decide +kernel) rfl hf (fun hf => ?_)
      refine zr_iadd 49 C (by decide +kernel) rfl ?_
      refine zr_bipush (v := 48) 48 51 C (by decide +kernel) rfl rfl ?_
      refine zr_isub 52 C (by decide +kernel) rfl ?_
      refine xp_1_8 (idx := 66) 55 C (by decide +kernel) rfl q_118 hf (fun σ3 hf => ?_)
      refine zr_aload_n 0 56 C (by decide +kernel) rfl rfl ?_
      refine zr_dup 57 C (by decide +kernel) rfl rfl ?_
      refine xg_1_6 (idx := 28) 60 C (by decide +kernel) rfl q_116 ?_
      refine zr_iconst (v := 1) 1 61 C (by decide +kernel) rfl rfl ?_
      refine zr_iadd 62 C (by decide +kernel) rfl ?_
      refine xp_1_6 (idx := 28) 65 C (by decide +kernel) rfl q_116 hf (fun σ4 hf => ?_)
      refine zr_goto (off := -60) 5 C (by decide +kernel) (by decide) ?_
      exact H5 _ hf
def f_Rd_takeNumber_5  : Nat → zS → Option (Int32 × zS)
  | 0, _ => none
  | n + 1,  σ => f_Rd_takeNumber_5b (fun  σ => f_Rd_takeNumber_5  n  σ)  σ
theorem w_Rd_takeNumber_5 {l : Launch} {d : zD} {F : zF} {h : Nat → Nat} {out : Int32 × zS} {ad av : Nat → Nat}   (C : zOk d F RX4 cX4_takeNumber 1 1 20) (T : zRt d F none none (XW d h out.2)) (E : zXe d ad av)  : ∀ (n : Nat)  (σ : zS), f_Rd_takeNumber_5  n  σ = some out → V l d F 0 0 (XW d h σ) [some (.ref (h 1))] 5 [] := by
  intro n
  induction n with
  | zero =>
    intro  σ hf
    cases hf
  | succ n ih =>
    intro  σ hf
    exact w_Rd_takeNumber_5b C T E ih  σ hf
def f_Rd_takeNumber  (σ : zS) : Option (Int32 × zS) :=
  zlt (zsg σ 108 0) fun σ1 =>
  f_Rd_takeNumber_5 zfu σ1
set_option maxRecDepth 4000 in
theorem m_Rd_takeNumber {l : Launch} {d : zD} {h : Nat → Nat} {out : Int32 × zS} {σ : zS} {ad av : Nat → Nat}  (E : zXe d ad av) (hf : f_Rd_takeNumber  σ = some out) : zM l yX4_takeNumber cX4_takeNumber 1 none 1 20 d [.ref (h 1)] (XW d h σ) (XW d h out.2) none := by
  refine zM_of [some (.ref (h 1))] (by decide +kernel) rfl (Nat.le_of_ble_eq_true rfl) (fun F C T => ?_)
  unfold f_Rd_takeNumber at hf
  refine zr_aload_n 0 1 C (by decide +kernel) rfl rfl ?_
  refine zr_iconst (v := 0) 0 2 C (by decide +kernel) rfl rfl ?_
  refine xp_1_8 (idx := 66) 5 C (by decide +kernel) rfl q_118 hf (fun σ1 hf => ?_)
  exact w_Rd_takeNumber_5 C T E zfu _ hf
theorem y_Rd_takeNumber : zY yX4_takeNumber cX4_takeNumber 1 none 0 := ⟨q_448, q_73, by decide +kernel, by decide +kernel, by decide +kernel⟩
theorem k_Rd_takeNumber {l : Launch} {d : zD} {F : zF} {h : Nat → Nat} {σ : zS} {lv : List (Option Value)} {pc : Nat} {own : String} {cc : ByteArray} {nL fr lo idx : Nat} {rest : List Value} {β : Type} {kf : Int32 → zS → Option β} {o2 : β} {ad av : Nat → Nat}   (pc' : Nat) (C : zOk d F own cc nL fr lo) (E : zXe d ad av) (hd : decode cc pc = .ok (.invokevirtual idx, 3)) (hp : pc + 3 = pc') (hq : Cond.methodLink own idx yX4_takeNumber ∈ zW) (hm : 1 + 1 ≤ fr ∧ 8 + (1 + 11) + 20 ≤ lo) (hr : (rest.map fun v => v.category).sum ≤ 8) (hf : zbd (f_Rd_takeNumber  σ) kf = some o2) (K : ∀ (r : Int32) (σ' : zS), kf r σ' = some o2 → V l d F 0 0 (XW d h σ') lv pc' (rest)) : V l d F 0 0 (XW d h σ) lv pc (.ref (h 1) :: rest) := by
  obtain ⟨q, h1, h2⟩ := zbd_some hf
  exact zr_callV y_Rd_takeNumber ⟨q_447, q_3⟩ 1 rfl rfl (As := []) (m_Rd_takeNumber E h1) rfl rfl pc' C hd hp hq hm hr (K _ _ h2)
/-! StepsBeyond.house(II)I -/
def f_X_house (p1 : Int32) (p2 : Int32) (σ : zS) : Option (Int32 × zS) :=
  zbd (f_X_isPlace p1 σ) fun r2 σ1 =>
  (if r2 = 0 then
  some (-2, σ1)
  else
  zbd (f_X_isBit p2 σ1) fun r4 σ3 =>
  (if r4 = 0 then
  some (-2, σ3)
  else
  zbd (f_Vi_add p1 p2 σ3) fun r6 σ5 =>
  some (r6, σ5)))
set_option maxRecDepth 4000 in
theorem m_X_house {l : Launch} {d : zD} {h : Nat → Nat} {out : Int32 × zS} {σ : zS} {ad av : Nat → Nat} {p1 : Int32} {p2 : Int32} (E : zXe d ad av) (hf : f_X_house p1 p2 σ = some out) : zM l yX10_house cX10_house 3 (some .int) 5 115 d [.ref (h 0), .int p1, .int p2] (XW d h σ) (XW d h out.2) (some (.int out.1)) := by
  refine zM_of [some (.ref (h 0)), some (.int p1), some (.int p2)] (by decide +kernel) rfl (Nat.le_of_ble_eq_true rfl) (fun F C T => ?_)
  unfold f_X_house at hf
  refine zr_iload_n 1 1 C (by decide +kernel) rfl rfl ?_
  refine k_X_isPlace (idx := 123) 4 C E (by decide +kernel) rfl q_612 (zb2 rfl rfl) (Nat.le_of_ble_eq_true rfl) hf (fun r2 σ1 hf => ?_)
  refine zr_if_eq (off := 10) 14 7 C (by decide +kernel) (by decide) rfl hf (fun hf => ?_) (fun hf => ?_)
  · refine zr_bipush (v := (-2)) (-2) 16 C (by decide +kernel) rfl rfl ?_
    obtain rfl := Option.some.inj hf
    exact zr_iret C (by decide +kernel) T
  · refine zr_iload_n 2 8 C (by decide +kernel) rfl rfl ?_
    refine k_X_isBit (idx := 127) 11 C E (by decide +kernel) rfl q_618 (zb2 rfl rfl) (Nat.le_of_ble_eq_true rfl) hf (fun r4 σ3 hf => ?_)
    refine zr_if_ne (off := 6) 17 14 C (by decide +kernel) (by decide) rfl hf (fun hf => ?_) (fun hf => ?_)
    · refine zr_aload_n 0 18 C (by decide +kernel) rfl rfl ?_
      refine xg_0_2 (idx := 26) 21 C (by decide +kernel) rfl q_560 ?_
      refine zr_iload_n 1 22 C (by decide +kernel) rfl rfl ?_
      refine zr_iload_n 2 23 C (by decide +kernel) rfl rfl ?_
      refine k_Vi_add (idx := 130) 26 C E (by decide +kernel) rfl q_621 (zb2 rfl rfl) (Nat.le_of_ble_eq_true rfl) hf (fun r6 σ5 hf => ?_)
      obtain rfl := Option.some.inj hf
      exact zr_iret C (by decide +kernel) T
    · refine zr_bipush (v := (-2)) (-2) 16 C (by decide +kernel) rfl rfl ?_
      obtain rfl := Option.some.inj hf
      exact zr_iret C (by decide +kernel) T
theorem y_X_house : zY yX10_house cX10_house 3 (some .int) 2 := ⟨q_611, q_72, by decide +kernel, by decide +kernel, by decide +kernel⟩
theorem k_X_house {l : Launch} {d : zD} {F : zF} {h : Nat → Nat} {σ : zS} {lv : List (Option Value)} {pc : Nat} {own : String} {cc : ByteArray} {nL fr lo idx : Nat} {rest : List Value} {β : Type} {kf : Int32 → zS → Option β} {o2 : β} {ad av : Nat → Nat}  {p1 : Int32} {p2 : Int32} (pc' : Nat) (C : zOk d F own cc nL fr lo) (E : zXe d ad av) (hd : decode cc pc = .ok (.invokevirtual idx, 3)) (hp : pc + 3 = pc') (hq : Cond.methodLink own idx yX10_house ∈ zW) (hm : 5 + 1 ≤ fr ∧ 8 + (3 + 11) + 115 ≤ lo) (hr : (rest.map fun v => v.category).sum ≤ 8) (hf : zbd (f_X_house p1 p2 σ) kf = some o2) (K : ∀ (r : Int32) (σ' : zS), kf r σ' = some o2 → V l d F 0 0 (XW d h σ') lv pc' (.int r :: rest)) : V l d F 0 0 (XW d h σ) lv pc (.int p2 :: .int p1 :: .ref (h 0) :: rest) := by
  obtain ⟨q, h1, h2⟩ := zbd_some hf
  exact zr_callV y_X_house ⟨q_609, q_610⟩ 0 rfl rfl (As := [.int p1, .int p2]) (m_X_house E h1) rfl rfl pc' C hd hp hq hm hr (K _ _ h2)
/-! StepsBeyond.hut(II)I -/
def f_X_hut (p1 : Int32) (p2 : Int32) (σ : zS) : Option (Int32 × zS) :=
  zbd (f_Vi_knows p1 σ) fun r2 σ1 =>
  (if r2 = 0 then
  some (-1, σ1)
  else
  zbd (f_X_isBit p2 σ1) fun r4 σ3 =>
  (if r4 = 0 then
  some (-2, σ3)
  else
  zin p1 20 (zlt (σ3.2 18 p1.toNatClampNeg) fun v5 => 
  zin p1 20 (zlt (zsa σ3 18 p1 p2) fun σ6 =>
  zbd (f_Vi_joinAll  σ6) fun _ σ7 =>
  some (v5, σ7)))))
set_option maxRecDepth 4000 in
theorem m_X_hut {l : Launch} {d : zD} {h : Nat → Nat} {out : Int32 × zS} {σ : zS} {ad av : Nat → Nat} {p1 : Int32} {p2 : Int32} (E : zXe d ad av) (hf : f_X_hut p1 p2 σ = some out) : zM l yX10_hut cX10_hut 4 (some .int) 4 93 d [.ref (h 0), .int p1, .int p2] (XW d h σ) (XW d h out.2) (some (.int out.1)) := by
  refine zM_of [some (.ref (h 0)), some (.int p1), some (.int p2), none] (by decide +kernel) rfl (Nat.le_of_ble_eq_true rfl) (fun F C T => ?_)
  unfold f_X_hut at hf
  refine zr_aload_n 0 1 C (by decide +kernel) rfl rfl ?_
  refine xg_0_2 (idx := 26) 4 C (by decide +kernel) rfl q_560 ?_
  refine zr_iload_n 1 5 C (by decide +kernel) rfl rfl ?_
  refine k_Vi_knows (idx := 133) 8 C E (by decide +kernel) rfl q_629 (zb2 rfl rfl) (Nat.le_of_ble_eq_true rfl) hf (fun r2 σ1 hf => ?_)
  refine zr_if_ne (off := 5) 13 11 C (by decide +kernel) (by decide) rfl hf (fun hf => ?_) (fun hf => ?_)
  · refine zr_iload_n 2 14 C (by decide +kernel) rfl rfl ?_
    refine k_X_isBit (idx := 127) 17 C E (by decide +kernel) rfl q_618 (zb2 rfl rfl) (Nat.le_of_ble_eq_true rfl) hf (fun r4 σ3 hf => ?_)
    refine zr_if_ne (off := 6) 23 20 C (by decide +kernel) (by decide) rfl hf (fun hf => ?_) (fun hf => ?_)
    · refine zr_aload_n 0 24 C (by decide +kernel) rfl rfl ?_
      refine xg_0_2 (idx := 26) 27 C (by decide +kernel) rfl q_560 ?_
      refine xg_3_1 (idx := 136) 30 C (by decide +kernel) rfl q_185 ?_
      refine zr_iload_n 1 31 C (by decide +kernel) rfl rfl ?_
      refine xl_18 32 C (by decide +kernel) rfl hf (fun hf => ?_)
      refine zr_name hf (fun v5 hf => ?_)
      refine zr_istore_n 3 [some (.ref (h 0)), some (.int p1), some (.int p2), some (.int v5)] 33 C (by decide +kernel) rfl (by decide) rfl rfl ?_
      refine zr_aload_n 0 34 C (by decide +kernel) rfl rfl ?_
      refine xg_0_2 (idx := 26) 37 C (by decide +kernel) rfl q_560 ?_
      refine xg_3_1 (idx := 136) 40 C (by decide +kernel) rfl q_185 ?_
      refine zr_iload_n 1 41 C (by decide +kernel) rfl rfl ?_
      refine zr_iload_n 2 42 C (by decide +kernel) rfl rfl ?_
      refine xs_18 43 C (by decide +kernel) rfl hf (fun σ6 hf => ?_)
      refine zr_aload_n 0 44 C (by decide +kernel) rfl rfl ?_
      refine xg_0_2 (idx := 26) 47 C (by decide +kernel) rfl q_560 ?_
      refine k_Vi_joinAll (idx := 139) 50 C E (by decide +kernel) rfl q_633 (zb2 rfl rfl) (Nat.le_of_ble_eq_true rfl) hf (fun _ σ7 hf => ?_)
      refine zr_iload_n 3 51 C (by decide +kernel) rfl rfl ?_
      obtain rfl := Option.some.inj hf
      exact zr_iret C (by decide +kernel) T
    · refine zr_bipush (v := (-2)) (-2) 22 C (by decide +kernel) rfl rfl ?_
      obtain rfl := Option.some.inj hf
      exact zr_iret C (by decide +kernel) T
  · refine zr_iconst (v := (-1)) (-1) 12 C (by decide +kernel) rfl rfl ?_
    obtain rfl := Option.some.inj hf
    exact zr_iret C (by decide +kernel) T
theorem y_X_hut : zY yX10_hut cX10_hut 4 (some .int) 2 := ⟨q_628, q_72, by decide +kernel, by decide +kernel, by decide +kernel⟩
theorem k_X_hut {l : Launch} {d : zD} {F : zF} {h : Nat → Nat} {σ : zS} {lv : List (Option Value)} {pc : Nat} {own : String} {cc : ByteArray} {nL fr lo idx : Nat} {rest : List Value} {β : Type} {kf : Int32 → zS → Option β} {o2 : β} {ad av : Nat → Nat}  {p1 : Int32} {p2 : Int32} (pc' : Nat) (C : zOk d F own cc nL fr lo) (E : zXe d ad av) (hd : decode cc pc = .ok (.invokevirtual idx, 3)) (hp : pc + 3 = pc') (hq : Cond.methodLink own idx yX10_hut ∈ zW) (hm : 4 + 1 ≤ fr ∧ 8 + (4 + 11) + 93 ≤ lo) (hr : (rest.map fun v => v.category).sum ≤ 8) (hf : zbd (f_X_hut p1 p2 σ) kf = some o2) (K : ∀ (r : Int32) (σ' : zS), kf r σ' = some o2 → V l d F 0 0 (XW d h σ') lv pc' (.int r :: rest)) : V l d F 0 0 (XW d h σ) lv pc (.int p2 :: .int p1 :: .ref (h 0) :: rest) := by
  obtain ⟨q, h1, h2⟩ := zbd_some hf
  exact zr_callV y_X_hut ⟨q_626, q_627⟩ 0 rfl rfl (As := [.int p1, .int p2]) (m_X_hut E h1) rfl rfl pc' C hd hp hq hm hr (K _ _ h2)
/-! StepsBeyond.near(II)I -/
def f_X_near (p1 : Int32) (p2 : Int32) (σ : zS) : Option (Int32 × zS) :=
  zbd (f_Vi_knows p1 σ) fun r2 σ1 =>
  (if r2 = 0 then
  some (-2, σ1)
  else
  zbd (f_Vi_knows p2 σ1) fun r4 σ3 =>
  (if r4 = 0 then
  some (-2, σ3)
  else
  (if p1 = p2 then
  some (-2, σ3)
  else
  zin p1 20 (zbd (f_X_has (σ3.2 19 p1.toNatClampNeg) p2 σ3) fun r6 σ5 =>
  (if r6 = 0 then
  some (0, σ5)
  else
  some (1, σ5))))))
set_option maxRecDepth 4000 in
theorem m_X_near {l : Launch} {d : zD} {h : Nat → Nat} {out : Int32 × zS} {σ : zS} {ad av : Nat → Nat} {p1 : Int32} {p2 : Int32} (E : zXe d ad av) (hf : f_X_near p1 p2 σ = some out) : zM l yX10_near cX10_near 3 (some .int) 1 21 d [.ref (h 0), .int p1, .int p2] (XW d h σ) (XW d h out.2) (some (.int out.1)) := by
  refine zM_of [some (.ref (h 0)), some (.int p1), some (.int p2)] (by decide +kernel) rfl (Nat.le_of_ble_eq_true rfl) (fun F C T => ?_)
  unfold f_X_near at hf
  refine zr_aload_n 0 1 C (by decide +kernel) rfl rfl ?_
  refine xg_0_2 (idx := 26) 4 C (by decide +kernel) rfl q_560 ?_
  refine zr_iload_n 1 5 C (by decide +kernel) rfl rfl ?_
  refine k_Vi_knows (idx := 133) 8 C E (by decide +kernel) rfl q_629 (zb2 rfl rfl) (Nat.le_of_ble_eq_true rfl) hf (fun r2 σ1 hf => ?_)
  refine zr_if_eq (off := 19) 27 11 C (by decide +kernel) (by decide) rfl hf (fun hf => ?_) (fun hf => ?_)
  · refine zr_bipush (v := (-2)) (-2) 29 C (by decide +kernel) rfl rfl ?_
    obtain rfl := Option.some.inj hf
    exact zr_iret C (by decide +kernel) T
  · refine zr_aload_n 0 12 C (by decide +kernel) rfl rfl ?_
    refine xg_0_2 (idx := 26) 15 C (by decide +kernel) rfl q_560 ?_
    refine zr_iload_n 2 16 C (by decide +kernel) rfl rfl ?_
    refine k_Vi_knows (idx := 133) 19 C E (by decide +kernel) rfl q_629 (zb2 rfl rfl) (Nat.le_of_ble_eq_true rfl) hf (fun r4 σ3 hf => ?_)
    refine zr_if_eq (off := 8) 27 22 C (by decide +kernel) (by decide) rfl hf (fun hf => ?_) (fun hf => ?_)
    · refine zr_bipush (v := (-2)) (-2) 29 C (by decide +kernel) rfl rfl ?_
      obtain rfl := Option.some.inj hf
      exact zr_iret C (by decide +kernel) T
    · refine zr_iload_n 1 23 C (by decide +kernel) rfl rfl ?_
      refine zr_iload_n 2 24 C (by decide +kernel) rfl rfl ?_
      refine zr_icmp_ne (off := 6) 30 27 C (by decide +kernel) (by decide) rfl hf (fun hf => ?_) (fun hf => ?_)
      · refine zr_aload_n 0 31 C (by decide +kernel) rfl rfl ?_
        refine xg_0_2 (idx := 26) 34 C (by decide +kernel) rfl q_560 ?_
        refine xg_3_2 (idx := 142) 37 C (by decide +kernel) rfl q_187 ?_
        refine zr_iload_n 1 38 C (by decide +kernel) rfl rfl ?_
        refine xl_19 39 C (by decide +kernel) rfl hf (fun hf => ?_)
        refine zr_iload_n 2 40 C (by decide +kernel) rfl rfl ?_
        refine k_X_has (idx := 145) 43 C E (by decide +kernel) rfl q_638 (zb2 rfl rfl) (Nat.le_of_ble_eq_true rfl) hf (fun r6 σ5 hf => ?_)
        refine zr_if_eq (off := 7) 50 46 C (by decide +kernel) (by decide) rfl hf (fun hf => ?_) (fun hf => ?_)
        · refine zr_iconst (v := 0) 0 51 C (by decide +kernel) rfl rfl ?_
          obtain rfl := Option.some.inj hf
          exact zr_iret C (by decide +kernel) T
        · refine zr_iconst (v := 1) 1 47 C (by decide +kernel) rfl rfl ?_
          refine zr_goto (off := 4) 51 C (by decide +kernel) (by decide) ?_
          obtain rfl := Option.some.inj hf
          exact zr_iret C (by decide +kernel) T
      · refine zr_bipush (v := (-2)) (-2) 29 C (by decide +kernel) rfl rfl ?_
        obtain rfl := Option.some.inj hf
        exact zr_iret C (by decide +kernel) T
theorem y_X_near : zY yX10_near cX10_near 3 (some .int) 2 := ⟨q_637, q_72, by decide +kernel, by decide +kernel, by decide +kernel⟩
theorem k_X_near {l : Launch} {d : zD} {F : zF} {h : Nat → Nat} {σ : zS} {lv : List (Option Value)} {pc : Nat} {own : String} {cc : ByteArray} {nL fr lo idx : Nat} {rest : List Value} {β : Type} {kf : Int32 → zS → Option β} {o2 : β} {ad av : Nat → Nat}  {p1 : Int32} {p2 : Int32} (pc' : Nat) (C : zOk d F own cc nL fr lo) (E : zXe d ad av) (hd : decode cc pc = .ok (.invokevirtual idx, 3)) (hp : pc + 3 = pc') (hq : Cond.methodLink own idx yX10_near ∈ zW) (hm : 1 + 1 ≤ fr ∧ 8 + (3 + 11) + 21 ≤ lo) (hr : (rest.map fun v => v.category).sum ≤ 8) (hf : zbd (f_X_near p1 p2 σ) kf = some o2) (K : ∀ (r : Int32) (σ' : zS), kf r σ' = some o2 → V l d F 0 0 (XW d h σ') lv pc' (.int r :: rest)) : V l d F 0 0 (XW d h σ) lv pc (.int p2 :: .int p1 :: .ref (h 0) :: rest) := by
  obtain ⟨q, h1, h2⟩ := zbd_some hf
  exact zr_callV y_X_near ⟨q_635, q_636⟩ 0 rfl rfl (As := [.int p1, .int p2]) (m_X_near E h1) rfl rfl pc' C hd hp hq hm hr (K _ _ h2)
/-! StepsBeyond.far(I)I -/
def f_X_far (p1 : Int32) (σ : zS) : Option (Int32 × zS) :=
  zbd (f_X_isBit p1 σ) fun r2 σ1 =>
  (if r2 = 0 then
  some (-2, σ1)
  else
  zbd (f_Vi_farWith p1 σ1) fun r4 σ3 =>
  some (r4, σ3))
set_option maxRecDepth 4000 in
theorem m_X_far {l : Launch} {d : zD} {h : Nat → Nat} {out : Int32 × zS} {σ : zS} {ad av : Nat → Nat} {p1 : Int32} (E : zXe d ad av) (hf : f_X_far p1 σ = some out) : zM l yX10_far cX10_far 2 (some .int) 3 67 d [.ref (h 0), .int p1] (XW d h σ) (XW d h out.2) (some (.int out.1)) := by
  refine zM_of [some (.ref (h 0)), some (.int p1)] (by decide +kernel) rfl (Nat.le_of_ble_eq_true rfl) (fun F C T => ?_)
  unfold f_X_far at hf
  refine zr_iload_n 1 1 C (by decide +kernel) rfl rfl ?_
  refine k_X_isBit (idx := 127) 4 C E (by decide +kernel) rfl q_618 (zb2 rfl rfl) (Nat.le_of_ble_eq_true rfl) hf (fun r2 σ1 hf => ?_)
  refine zr_if_ne (off := 6) 10 7 C (by decide +kernel) (by decide) rfl hf (fun hf => ?_) (fun hf => ?_)
  · refine zr_aload_n 0 11 C (by decide +kernel) rfl rfl ?_
    refine xg_0_2 (idx := 26) 14 C (by decide +kernel) rfl q_560 ?_
    refine zr_iload_n 1 15 C (by decide +kernel) rfl rfl ?_
    refine k_Vi_farWith (idx := 149) 18 C E (by decide +kernel) rfl q_645 (zb2 rfl rfl) (Nat.le_of_ble_eq_true rfl) hf (fun r4 σ3 hf => ?_)
    obtain rfl := Option.some.inj hf
    exact zr_iret C (by decide +kernel) T
  · refine zr_bipush (v := (-2)) (-2) 9 C (by decide +kernel) rfl rfl ?_
    obtain rfl := Option.some.inj hf
    exact zr_iret C (by decide +kernel) T
theorem y_X_far : zY yX10_far cX10_far 2 (some .int) 1 := ⟨q_644, q_72, by decide +kernel, by decide +kernel, by decide +kernel⟩
theorem k_X_far {l : Launch} {d : zD} {F : zF} {h : Nat → Nat} {σ : zS} {lv : List (Option Value)} {pc : Nat} {own : String} {cc : ByteArray} {nL fr lo idx : Nat} {rest : List Value} {β : Type} {kf : Int32 → zS → Option β} {o2 : β} {ad av : Nat → Nat}  {p1 : Int32} (pc' : Nat) (C : zOk d F own cc nL fr lo) (E : zXe d ad av) (hd : decode cc pc = .ok (.invokevirtual idx, 3)) (hp : pc + 3 = pc') (hq : Cond.methodLink own idx yX10_far ∈ zW) (hm : 3 + 1 ≤ fr ∧ 8 + (2 + 11) + 67 ≤ lo) (hr : (rest.map fun v => v.category).sum ≤ 8) (hf : zbd (f_X_far p1 σ) kf = some o2) (K : ∀ (r : Int32) (σ' : zS), kf r σ' = some o2 → V l d F 0 0 (XW d h σ') lv pc' (.int r :: rest)) : V l d F 0 0 (XW d h σ) lv pc (.int p1 :: .ref (h 0) :: rest) := by
  obtain ⟨q, h1, h2⟩ := zbd_some hf
  exact zr_callV y_X_far ⟨q_642, q_643⟩ 0 rfl rfl (As := [.int p1]) (m_X_far E h1) rfl rfl pc' C hd hp hq hm hr (K _ _ h2)
/-! StepsBeyond.town(I)I -/
def f_X_town (p1 : Int32) (σ : zS) : Option (Int32 × zS) :=
  zbd (f_Vi_knows p1 σ) fun r2 σ1 =>
  (if r2 = 0 then
  some (-1, σ1)
  else
  zbd (f_Vi_townOf p1 σ1) fun r4 σ3 =>
  some (r4, σ3))
set_option maxRecDepth 4000 in
theorem m_X_town {l : Launch} {d : zD} {h : Nat → Nat} {out : Int32 × zS} {σ : zS} {ad av : Nat → Nat} {p1 : Int32} (E : zXe d ad av) (hf : f_X_town p1 σ = some out) : zM l yX10_town cX10_town 2 (some .int) 3 68 d [.ref (h 0), .int p1] (XW d h σ) (XW d h out.2) (some (.int out.1)) := by
  refine zM_of [some (.ref (h 0)), some (.int p1)] (by decide +kernel) rfl (Nat.le_of_ble_eq_true rfl) (fun F C T => ?_)
  unfold f_X_town at hf
  refine zr_aload_n 0 1 C (by decide +kernel) rfl rfl ?_
  refine xg_0_2 (idx := 26) 4 C (by decide +kernel) rfl q_560 ?_
  refine zr_iload_n 1 5 C (by decide +kernel) rfl rfl ?_
  refine k_Vi_knows (idx := 133) 8 C E (by decide +kernel) rfl q_629 (zb2 rfl rfl) (Nat.le_of_ble_eq_true rfl) hf (fun r2 σ1 hf => ?_)
  refine zr_if_ne (off := 5) 13 11 C (by decide +kernel) (by decide) rfl hf (fun hf => ?_) (fun hf => ?_)
  · refine zr_aload_n 0 14 C (by decide +kernel) rfl rfl ?_
    refine xg_0_2 (idx := 26) 17 C (by decide +kernel) rfl q_560 ?_
    refine zr_iload_n 1 18 C (by decide +kernel) rfl rfl ?_
    refine k_Vi_townOf (idx := 153) 21 C E (by decide +kernel) rfl q_657 (zb2 rfl rfl) (Nat.le_of_ble_eq_true rfl) hf (fun r4 σ3 hf => ?_)
    obtain rfl := Option.some.inj hf
    exact zr_iret C (by decide +kernel) T
  · refine zr_iconst (v := (-1)) (-1) 12 C (by decide +kernel) rfl rfl ?_
    obtain rfl := Option.some.inj hf
    exact zr_iret C (by decide +kernel) T
theorem y_X_town : zY yX10_town cX10_town 2 (some .int) 1 := ⟨q_656, q_72, by decide +kernel, by decide +kernel, by decide +kernel⟩
theorem k_X_town {l : Launch} {d : zD} {F : zF} {h : Nat → Nat} {σ : zS} {lv : List (Option Value)} {pc : Nat} {own : String} {cc : ByteArray} {nL fr lo idx : Nat} {rest : List Value} {β : Type} {kf : Int32 → zS → Option β} {o2 : β} {ad av : Nat → Nat}  {p1 : Int32} (pc' : Nat) (C : zOk d F own cc nL fr lo) (E : zXe d ad av) (hd : decode cc pc = .ok (.invokevirtual idx, 3)) (hp : pc + 3 = pc') (hq : Cond.methodLink own idx yX10_town ∈ zW) (hm : 3 + 1 ≤ fr ∧ 8 + (2 + 11) + 68 ≤ lo) (hr : (rest.map fun v => v.category).sum ≤ 8) (hf : zbd (f_X_town p1 σ) kf = some o2) (K : ∀ (r : Int32) (σ' : zS), kf r σ' = some o2 → V l d F 0 0 (XW d h σ') lv pc' (.int r :: rest)) : V l d F 0 0 (XW d h σ) lv pc (.int p1 :: .ref (h 0) :: rest) := by
  obtain ⟨q, h1, h2⟩ := zbd_some hf
  exact zr_callV y_X_town ⟨q_654, q_655⟩ 0 rfl rfl (As := [.int p1]) (m_X_town E h1) rfl rfl pc' C hd hp hq hm hr (K _ _ h2)
/-! StepsBeyond.burn(I)I -/
def f_X_burn (p1 : Int32) (σ : zS) : Option (Int32 × zS) :=
  zbd (f_Vi_knows p1 σ) fun r2 σ1 =>
  (if r2 = 0 then
  some (-1, σ1)
  else
  zbd (f_Vi_heldBy p1 σ1) fun r4 σ3 =>
  some (r4, σ3))
set_option maxRecDepth 4000 in
theorem m_X_burn {l : Launch} {d : zD} {h : Nat → Nat} {out : Int32 × zS} {σ : zS} {ad av : Nat → Nat} {p1 : Int32} (E : zXe d ad av) (hf : f_X_burn p1 σ = some out) : zM l yX10_burn cX10_burn 2 (some .int) 4 94 d [.ref (h 0), .int p1] (XW d h σ) (XW d h out.2) (some (.int out.1)) := by
  refine zM_of [some (.ref (h 0)), some (.int p1)] (by decide +kernel) rfl (Nat.le_of_ble_eq_true rfl) (fun F C T => ?_)
  unfold f_X_burn at hf
  refine zr_aload_n 0 1 C (by decide +kernel) rfl rfl ?_
  refine xg_0_2 (idx := 26) 4 C (by decide +kernel) rfl q_560 ?_
  refine zr_iload_n 1 5 C (by decide +kernel) rfl rfl ?_
  refine k_Vi_knows (idx := 133) 8 C E (by decide +kernel) rfl q_629 (zb2 rfl rfl) (Nat.le_of_ble_eq_true rfl) hf (fun r2 σ1 hf => ?_)
  refine zr_if_ne (off := 5) 13 11 C (by decide +kernel) (by decide) rfl hf (fun hf => ?_) (fun hf => ?_)
  · refine zr_aload_n 0 14 C (by decide +kernel) rfl rfl ?_
    refine xg_0_2 (idx := 26) 17 C (by decide +kernel) rfl q_560 ?_
    refine zr_iload_n 1 18 C (by decide +kernel) rfl rfl ?_
    refine k_Vi_heldBy (idx := 156) 21 C E (by decide +kernel) rfl q_670 (zb2 rfl rfl) (Nat.le_of_ble_eq_true rfl) hf (fun r4 σ3 hf => ?_)
    obtain rfl := Option.some.inj hf
    exact zr_iret C (by decide +kernel) T
  · refine zr_iconst (v := (-1)) (-1) 12 C (by decide +kernel) rfl rfl ?_
    obtain rfl := Option.some.inj hf
    exact zr_iret C (by decide +kernel) T
theorem y_X_burn : zY yX10_burn cX10_burn 2 (some .int) 1 := ⟨q_669, q_72, by decide +kernel, by decide +kernel, by decide +kernel⟩
theorem k_X_burn {l : Launch} {d : zD} {F : zF} {h : Nat → Nat} {σ : zS} {lv : List (Option Value)} {pc : Nat} {own : String} {cc : ByteArray} {nL fr lo idx : Nat} {rest : List Value} {β : Type} {kf : Int32 → zS → Option β} {o2 : β} {ad av : Nat → Nat}  {p1 : Int32} (pc' : Nat) (C : zOk d F own cc nL fr lo) (E : zXe d ad av) (hd : decode cc pc = .ok (.invokevirtual idx, 3)) (hp : pc + 3 = pc') (hq : Cond.methodLink own idx yX10_burn ∈ zW) (hm : 4 + 1 ≤ fr ∧ 8 + (2 + 11) + 94 ≤ lo) (hr : (rest.map fun v => v.category).sum ≤ 8) (hf : zbd (f_X_burn p1 σ) kf = some o2) (K : ∀ (r : Int32) (σ' : zS), kf r σ' = some o2 → V l d F 0 0 (XW d h σ') lv pc' (.int r :: rest)) : V l d F 0 0 (XW d h σ) lv pc (.int p1 :: .ref (h 0) :: rest) := by
  obtain ⟨q, h1, h2⟩ := zbd_some hf
  exact zr_callV y_X_burn ⟨q_667, q_668⟩ 0 rfl rfl (As := [.int p1]) (m_X_burn E h1) rfl rfl pc' C hd hp hq hm hr (K _ _ h2)
/-! StepsBeyond.feed(JI)I -/
def f_X_feed_36b (k36 : Int64 → Int32 → zS → Option (Int32 × zS)) (x1 : Int64) (x4 : Int32) (σ : zS) : Option (Int32 × zS) :=
  (if x4 < 0 then
  some (σ.1 102, σ)
  else
  zbd (f_Rd_append (((zlushr x1 (8 * x4)).toInt32) &&& 255) σ) fun _ σ1 =>
  k36 x1 (x4 + (-1)) σ1)
set_option maxRecDepth 4000 in
theorem w_X_feed_36b {l : Launch} {d : zD} {F : zF} {h : Nat → Nat} {out : Int32 × zS} {ad av : Nat → Nat}  {k36 : Int64 → Int32 → zS → Option (Int32 × zS)} (C : zOk d F RX10 cX10_feed 5 1 22) (T : zRt d F (some .int) (some (.int out.1)) (XW d h out.2)) (E : zXe d ad av) (H36 : ∀ (x1 : Int64) (x4 : Int32) (σ : zS), k36 x1 x4 σ = some out → V l d F 0 0 (XW d h σ) [some (.ref (h 0)), some (.long x1), none, none, some (.int x4)] 36 []) (x1 : Int64) (x4 : Int32) (σ : zS) (hf : f_X_feed_36b k36 x1 x4 σ = some out) : V l d F 0 0 (XW d h σ) [some (.ref (h 0)), some (.long x1), none, none, some (.int x4)] 36 [] := by
  unfold f_X_feed_36b at hf
  refine zr_iload 4 38 C (by decide +kernel) rfl rfl ?_
  refine zr_if_lt (off := 28) 66 41 C (by decide +kernel) (by decide) rfl hf (fun hf => ?_) (fun hf => ?_)
  · refine zr_aload_n 0 67 C (by decide +kernel) rfl rfl ?_
    refine xg_0_0 (idx := 12) 70 C (by decide +kernel) rfl q_558 ?_
    refine xg_1_2 (idx := 163) 73 C (by decide +kernel) rfl q_109 ?_
    obtain rfl := Option.some.inj hf
    exact zr_iret C (by decide +kernel) T
  · refine zr_aload_n 0 42 C (by decide +kernel) rfl rfl ?_
    refine xg_0_0 (idx := 12) 45 C (by decide +kernel) rfl q_558 ?_
    refine zr_lload_n 1 46 C (by decide +kernel) rfl rfl ?_
    refine zr_bipush (v := 8) 8 48 C (by decide +kernel) rfl rfl ?_
    refine zr_iload 4 50 C (by decide +kernel) rfl rfl ?_
    refine zr_imul 51 C (by decide +kernel) rfl ?_
    refine zr_lushr 52 C (by decide +kernel) rfl ?_
    refine zr_l2i 53 C (by decide +kernel) rfl ?_
    refine zr_sipush (v := 255) 255 56 C (by decide +kernel) rfl rfl ?_
    refine zr_iand 57 C (by decide +kernel) rfl ?_
    refine k_Rd_append (idx := 97) 60 C E (by decide +kernel) rfl q_406 (zb2 rfl rfl) (Nat.le_of_ble_eq_true rfl) hf (fun _ σ1 hf => ?_)
    refine zr_iinc (j := -1) 4 [some (.ref (h 0)), some (.long x1), none, none, some (.int (x4 + (-1)))] 63 C (by decide +kernel) rfl rfl rfl (by decide) rfl rfl ?_
    refine zr_goto (off := -27) 36 C (by decide +kernel) (by decide) ?_
    exact H36 _ _ _ hf
def f_X_feed_36  : Nat → Int64 → Int32 → zS → Option (Int32 × zS)
  | 0, _, _, _ => none
  | n + 1, x1, x4,  σ => f_X_feed_36b (fun x1 x4 σ => f_X_feed_36  n x1 x4 σ) x1 x4 σ
theorem w_X_feed_36 {l : Launch} {d : zD} {F : zF} {h : Nat → Nat} {out : Int32 × zS} {ad av : Nat → Nat}   (C : zOk d F RX10 cX10_feed 5 1 22) (T : zRt d F (some .int) (some (.int out.1)) (XW d h out.2)) (E : zXe d ad av)  : ∀ (n : Nat) (x1 : Int64) (x4 : Int32) (σ : zS), f_X_feed_36  n x1 x4 σ = some out → V l d F 0 0 (XW d h σ) [some (.ref (h 0)), some (.long x1), none, none, some (.int x4)] 36 [] := by
  intro n
  induction n with
  | zero =>
    intro x1 x4 σ hf
    cases hf
  | succ n ih =>
    intro x1 x4 σ hf
    exact w_X_feed_36b C T E ih x1 x4 σ hf
def f_X_feed (p1 : Int64) (p3 : Int32) (σ : zS) : Option (Int32 × zS) :=
  zbd (f_X_isFrom p3 1 8 σ) fun r2 σ1 =>
  (if r2 = 0 then
  some (-2, σ1)
  else
  (if ((σ1.1 102) + p3) ≤ 160 then
  zlt (p3 - 1) fun v3 => 
  f_X_feed_36 zfu p1 v3 σ1
  else
  some (-4, σ1)))
set_option maxRecDepth 4000 in
theorem m_X_feed {l : Launch} {d : zD} {h : Nat → Nat} {out : Int32 × zS} {σ : zS} {ad av : Nat → Nat} {p1 : Int64} {p3 : Int32} (E : zXe d ad av) (hf : f_X_feed p1 p3 σ = some out) : zM l yX10_feed cX10_feed 5 (some .int) 1 22 d [.ref (h 0), .long p1, .int p3] (XW d h σ) (XW d h out.2) (some (.int out.1)) := by
  refine zM_of [some (.ref (h 0)), some (.long p1), none, some (.int p3), none] (by decide +kernel) rfl (Nat.le_of_ble_eq_true rfl) (fun F C T => ?_)
  unfold f_X_feed at hf
  refine zr_iload_n 3 1 C (by decide +kernel) rfl rfl ?_
  refine zr_iconst (v := 1) 1 2 C (by decide +kernel) rfl rfl ?_
  refine zr_bipush (v := 8) 8 4 C (by decide +kernel) rfl rfl ?_
  refine k_X_isFrom (idx := 159) 7 C E (by decide +kernel) rfl q_615 (zb2 rfl rfl) (Nat.le_of_ble_eq_true rfl) hf (fun r2 σ1 hf => ?_)
  refine zr_if_ne (off := 6) 13 10 C (by decide +kernel) (by decide) rfl hf (fun hf => ?_) (fun hf => ?_)
  · refine zr_aload_n 0 14 C (by decide +kernel) rfl rfl ?_
    refine xg_0_0 (idx := 12) 17 C (by decide +kernel) rfl q_558 ?_
    refine xg_1_2 (idx := 163) 20 C (by decide +kernel) rfl q_109 ?_
    refine zr_iload_n 3 21 C (by decide +kernel) rfl rfl ?_
    refine zr_iadd 22 C (by decide +kernel) rfl ?_
    refine zr_sipush (v := 160) 160 25 C (by decide +kernel) rfl rfl ?_
    refine zr_icmp_le (off := 6) 31 28 C (by decide +kernel) (by decide) rfl hf (fun hf => ?_) (fun hf => ?_)
    · refine zr_iload_n 3 32 C (by decide +kernel) rfl rfl ?_
      refine zr_iconst (v := 1) 1 33 C (by decide +kernel) rfl rfl ?_
      refine zr_isub 34 C (by decide +kernel) rfl ?_
      refine zr_name hf (fun v3 hf => ?_)
      refine zr_istore 4 [some (.ref (h 0)), some (.long p1), none, some (.int p3), some (.int v3)] 36 C (by decide +kernel) rfl (by decide) rfl rfl ?_
      refine zr_less (zA (zA (zN (zN (zA zE))))) ?_
      exact w_X_feed_36 C T E zfu _ _ _ hf
    · refine zr_bipush (v := (-4)) (-4) 30 C (by decide +kernel) rfl rfl ?_
      obtain rfl := Option.some.inj hf
      exact zr_iret C (by decide +kernel) T
  · refine zr_bipush (v := (-2)) (-2) 12 C (by decide +kernel) rfl rfl ?_
    obtain rfl := Option.some.inj hf
    exact zr_iret C (by decide +kernel) T
theorem y_X_feed : zY yX10_feed cX10_feed 5 (some .int) 2 := ⟨q_678, q_72, by decide +kernel, by decide +kernel, by decide +kernel⟩
theorem k_X_feed {l : Launch} {d : zD} {F : zF} {h : Nat → Nat} {σ : zS} {lv : List (Option Value)} {pc : Nat} {own : String} {cc : ByteArray} {nL fr lo idx : Nat} {rest : List Value} {β : Type} {kf : Int32 → zS → Option β} {o2 : β} {ad av : Nat → Nat}  {p1 : Int64} {p3 : Int32} (pc' : Nat) (C : zOk d F own cc nL fr lo) (E : zXe d ad av) (hd : decode cc pc = .ok (.invokevirtual idx, 3)) (hp : pc + 3 = pc') (hq : Cond.methodLink own idx yX10_feed ∈ zW) (hm : 1 + 1 ≤ fr ∧ 8 + (5 + 11) + 22 ≤ lo) (hr : (rest.map fun v => v.category).sum ≤ 8) (hf : zbd (f_X_feed p1 p3 σ) kf = some o2) (K : ∀ (r : Int32) (σ' : zS), kf r σ' = some o2 → V l d F 0 0 (XW d h σ') lv pc' (.int r :: rest)) : V l d F 0 0 (XW d h σ) lv pc (.int p3 :: .long p1 :: .ref (h 0) :: rest) := by
  obtain ⟨q, h1, h2⟩ := zbd_some hf
  exact zr_callV y_X_feed ⟨q_676, q_677⟩ 0 rfl rfl (As := [.long p1, .int p3]) (m_X_feed E h1) rfl rfl pc' C hd hp hq hm hr (K _ _ h2)
/-! StepsBeyond.enforce(I)V -/
def f_X_enforce (p1 : Int32) (σ : zS) : Option (Int32 × zS) :=
  zlt (zsg σ 14 p1) fun σ1 =>
  zin p1 6 (zin p1 6 (zbd (f_Vi_obey (43 + p1.toNatClampNeg) (49 + p1.toNatClampNeg) σ1) fun _ σ2 =>
  some (0, σ2)))
set_option maxRecDepth 4000 in
theorem m_X_enforce {l : Launch} {d : zD} {h : Nat → Nat} {out : Int32 × zS} {σ : zS} {ad av : Nat → Nat} {p1 : Int32} (E : zXe d ad av) (hf : f_X_enforce p1 σ = some out) : zM l yX10_enforce cX10_enforce 2 none 5 115 d [.ref (h 0), .int p1] (XW d h σ) (XW d h out.2) none := by
  refine zM_of [some (.ref (h 0)), some (.int p1)] (by decide +kernel) rfl (Nat.le_of_ble_eq_true rfl) (fun F C T => ?_)
  unfold f_X_enforce at hf
  refine zr_aload_n 0 1 C (by decide +kernel) rfl rfl ?_
  refine zr_iload_n 1 2 C (by decide +kernel) rfl rfl ?_
  refine xp_0_14 (idx := 173) 5 C (by decide +kernel) rfl q_572 hf (fun σ1 hf => ?_)
  refine zr_aload_n 0 6 C (by decide +kernel) rfl rfl ?_
  refine xg_0_2 (idx := 26) 9 C (by decide +kernel) rfl q_560 ?_
  refine zr_aload_n 0 10 C (by decide +kernel) rfl rfl ?_
  refine xg_0_1 (idx := 19) 13 C (by decide +kernel) rfl q_559 ?_
  refine xg_2_0 (idx := 112) 16 C (by decide +kernel) rfl q_148 ?_
  refine zr_iload_n 1 17 C (by decide +kernel) rfl rfl ?_
  refine xa_41 18 C (by decide +kernel) rfl hf (fun hf => ?_)
  refine zr_aload_n 0 19 C (by decide +kernel) rfl rfl ?_
  refine xg_0_1 (idx := 19) 22 C (by decide +kernel) rfl q_559 ?_
  refine xg_2_1 (idx := 116) 25 C (by decide +kernel) rfl q_150 ?_
  refine zr_iload_n 1 26 C (by decide +kernel) rfl rfl ?_
  refine xa_42 27 C (by decide +kernel) rfl hf (fun hf => ?_)
  refine k_Vi_obey (idx := 119) 30 C E (by decide +kernel) rfl q_518 (zb2 rfl rfl) (Nat.le_of_ble_eq_true rfl) hf (fun _ σ2 hf => ?_)
  obtain rfl := Option.some.inj hf
  exact zr_vret C (by decide +kernel) T
theorem y_X_enforce : zY yX10_enforce cX10_enforce 2 none 1 := ⟨q_694, q_72, by decide +kernel, by decide +kernel, by decide +kernel⟩
theorem k_X_enforce {l : Launch} {d : zD} {F : zF} {h : Nat → Nat} {σ : zS} {lv : List (Option Value)} {pc : Nat} {own : String} {cc : ByteArray} {nL fr lo idx : Nat} {rest : List Value} {β : Type} {kf : Int32 → zS → Option β} {o2 : β} {ad av : Nat → Nat}  {p1 : Int32} (pc' : Nat) (C : zOk d F own cc nL fr lo) (E : zXe d ad av) (hd : decode cc pc = .ok (.invokevirtual idx, 3)) (hp : pc + 3 = pc') (hq : Cond.methodLink own idx yX10_enforce ∈ zW) (hm : 5 + 1 ≤ fr ∧ 8 + (2 + 11) + 115 ≤ lo) (hr : (rest.map fun v => v.category).sum ≤ 8) (hf : zbd (f_X_enforce p1 σ) kf = some o2) (K : ∀ (r : Int32) (σ' : zS), kf r σ' = some o2 → V l d F 0 0 (XW d h σ') lv pc' (rest)) : V l d F 0 0 (XW d h σ) lv pc (.int p1 :: .ref (h 0) :: rest) := by
  obtain ⟨q, h1, h2⟩ := zbd_some hf
  exact zr_callV y_X_enforce ⟨q_693, q_18⟩ 0 rfl rfl (As := [.int p1]) (m_X_enforce E h1) rfl rfl pc' C hd hp hq hm hr (K _ _ h2)
/-! StepsBeyond.force(I)I -/
def f_X_force (p1 : Int32) (σ : zS) : Option (Int32 × zS) :=
  zbd (f_Tx_knows p1 σ) fun r2 σ1 =>
  (if r2 = 0 then
  some (-2, σ1)
  else
  zlt (σ1.1 14) fun v3 => 
  zbd (f_X_enforce p1 σ1) fun _ σ4 =>
  some (v3, σ4))
set_option maxRecDepth 4000 in
theorem m_X_force {l : Launch} {d : zD} {h : Nat → Nat} {out : Int32 × zS} {σ : zS} {ad av : Nat → Nat} {p1 : Int32} (E : zXe d ad av) (hf : f_X_force p1 σ = some out) : zM l yX10_force cX10_force 3 (some .int) 6 136 d [.ref (h 0), .int p1] (XW d h σ) (XW d h out.2) (some (.int out.1)) := by
  refine zM_of [some (.ref (h 0)), some (.int p1), none] (by decide +kernel) rfl (Nat.le_of_ble_eq_true rfl) (fun F C T => ?_)
  unfold f_X_force at hf
  refine zr_aload_n 0 1 C (by decide +kernel) rfl rfl ?_
  refine xg_0_1 (idx := 19) 4 C (by decide +kernel) rfl q_559 ?_
  refine zr_iload_n 1 5 C (by decide +kernel) rfl rfl ?_
  refine k_Tx_knows (idx := 172) 8 C E (by decide +kernel) rfl q_687 (zb2 rfl rfl) (Nat.le_of_ble_eq_true rfl) hf (fun r2 σ1 hf => ?_)
  refine zr_if_ne (off := 6) 14 11 C (by decide +kernel) (by decide) rfl hf (fun hf => ?_) (fun hf => ?_)
  · refine zr_aload_n 0 15 C (by decide +kernel) rfl rfl ?_
    refine xg_0_14 (idx := 173) 18 C (by decide +kernel) rfl q_572 ?_
    refine zr_name hf (fun v3 hf => ?_)
    refine zr_istore_n 2 [some (.ref (h 0)), some (.int p1), some (.int v3)] 19 C (by decide +kernel) rfl (by decide) rfl rfl ?_
    refine zr_aload_n 0 20 C (by decide +kernel) rfl rfl ?_
    refine zr_iload_n 1 21 C (by decide +kernel) rfl rfl ?_
    refine k_X_enforce (idx := 176) 24 C E (by decide +kernel) rfl q_691 (zb2 rfl rfl) (Nat.le_of_ble_eq_true rfl) hf (fun _ σ4 hf => ?_)
    refine zr_iload_n 2 25 C (by decide +kernel) rfl rfl ?_
    obtain rfl := Option.some.inj hf
    exact zr_iret C (by decide +kernel) T
  · refine zr_bipush (v := (-2)) (-2) 13 C (by decide +kernel) rfl rfl ?_
    obtain rfl := Option.some.inj hf
    exact zr_iret C (by decide +kernel) T
theorem y_X_force : zY yX10_force cX10_force 3 (some .int) 1 := ⟨q_686, q_72, by decide +kernel, by decide +kernel, by decide +kernel⟩
theorem k_X_force {l : Launch} {d : zD} {F : zF} {h : Nat → Nat} {σ : zS} {lv : List (Option Value)} {pc : Nat} {own : String} {cc : ByteArray} {nL fr lo idx : Nat} {rest : List Value} {β : Type} {kf : Int32 → zS → Option β} {o2 : β} {ad av : Nat → Nat}  {p1 : Int32} (pc' : Nat) (C : zOk d F own cc nL fr lo) (E : zXe d ad av) (hd : decode cc pc = .ok (.invokevirtual idx, 3)) (hp : pc + 3 = pc') (hq : Cond.methodLink own idx yX10_force ∈ zW) (hm : 6 + 1 ≤ fr ∧ 8 + (3 + 11) + 136 ≤ lo) (hr : (rest.map fun v => v.category).sum ≤ 8) (hf : zbd (f_X_force p1 σ) kf = some o2) (K : ∀ (r : Int32) (σ' : zS), kf r σ' = some o2 → V l d F 0 0 (XW d h σ') lv pc' (.int r :: rest)) : V l d F 0 0 (XW d h σ) lv pc (.int p1 :: .ref (h 0) :: rest) := by
  obtain ⟨q, h1, h2⟩ := zbd_some hf
  exact zr_callV y_X_force ⟨q_684, q_685⟩ 0 rfl rfl (As := [.int p1]) (m_X_force E h1) rfl rfl pc' C hd hp hq hm hr (K _ _ h2)
/-! StepsBeyond.shape(III)I -/
def f_X_shape (p1 : Int32) (p2 : Int32) (p3 : Int32) (σ : zS) : Option (Int32 × zS) :=
  zbd (f_X_isFrom p1 0 5 σ) fun r2 σ1 =>
  (if r2 = 0 then
  some (-2, σ1)
  else
  zbd (f_X_isFrom p3 0 30 σ1) fun r4 σ3 =>
  (if r4 = 0 then
  some (-2, σ3)
  else
  zbd (f_Vi_knows p2 σ3) fun r6 σ5 =>
  (if r6 = 0 then
  some (-1, σ5)
  else
  zbd (f_Sh_add p1 p2 p3 σ5) fun r8 σ7 =>
  some (r8, σ7))))
set_option maxRecDepth 4000 in
theorem m_X_shape {l : Launch} {d : zD} {h : Nat → Nat} {out : Int32 × zS} {σ : zS} {ad av : Nat → Nat} {p1 : Int32} {p2 : Int32} {p3 : Int32} (E : zXe d ad av) (hf : f_X_shape p1 p2 p3 σ = some out) : zM l yX10_shape cX10_shape 4 (some .int) 1 23 d [.ref (h 0), .int p1, .int p2, .int p3] (XW d h σ) (XW d h out.2) (some (.int out.1)) := by
  refine zM_of [some (.ref (h 0)), some (.int p1), some (.int p2), some (.int p3)] (by decide +kernel) rfl (Nat.le_of_ble_eq_true rfl) (fun F C T => ?_)
  unfold f_X_shape at hf
  refine zr_iload_n 1 1 C (by decide +kernel) rfl rfl ?_
  refine zr_iconst (v := 0) 0 2 C (by decide +kernel) rfl rfl ?_
  refine zr_iconst (v := 5) 5 3 C (by decide +kernel) rfl rfl ?_
  refine k_X_isFrom (idx := 159) 6 C E (by decide +kernel) rfl q_615 (zb2 rfl rfl) (Nat.le_of_ble_eq_true rfl) hf (fun r2 σ1 hf => ?_)
  refine zr_if_eq (off := 13) 19 9 C (by decide +kernel) (by decide) rfl hf (fun hf => ?_) (fun hf => ?_)
  · refine zr_bipush (v := (-2)) (-2) 21 C (by decide +kernel) rfl rfl ?_
    obtain rfl := Option.some.inj hf
    exact zr_iret C (by decide +kernel) T
  · refine zr_iload_n 3 10 C (by decide +kernel) rfl rfl ?_
    refine zr_iconst (v := 0) 0 11 C (by decide +kernel) rfl rfl ?_
    refine zr_bipush (v := 30) 30 13 C (by decide +kernel) rfl rfl ?_
    refine k_X_isFrom (idx := 159) 16 C E (by decide +kernel) rfl q_615 (zb2 rfl rfl) (Nat.le_of_ble_eq_true rfl) hf (fun r4 σ3 hf => ?_)
    refine zr_if_ne (off := 6) 22 19 C (by decide +kernel) (by decide) rfl hf (fun hf => ?_) (fun hf => ?_)
    · refine zr_aload_n 0 23 C (by decide +kernel) rfl rfl ?_
      refine xg_0_2 (idx := 26) 26 C (by decide +kernel) rfl q_560 ?_
      refine zr_iload_n 2 27 C (by decide +kernel) rfl rfl ?_
      refine k_Vi_knows (idx := 133) 30 C E (by decide +kernel) rfl q_629 (zb2 rfl rfl) (Nat.le_of_ble_eq_true rfl) hf (fun r6 σ5 hf => ?_)
      refine zr_if_ne (off := 5) 35 33 C (by decide +kernel) (by decide) rfl hf (fun hf => ?_) (fun hf => ?_)
      · refine zr_aload_n 0 36 C (by decide +kernel) rfl rfl ?_
        refine xg_0_4 (idx := 40) 39 C (by decide +kernel) rfl q_562 ?_
        refine zr_iload_n 1 40 C (by decide +kernel) rfl rfl ?_
        refine zr_iload_n 2 41 C (by decide +kernel) rfl rfl ?_
        refine zr_iload_n 3 42 C (by decide +kernel) rfl rfl ?_
        refine k_Sh_add (idx := 179) 45 C E (by decide +kernel) rfl q_699 (zb2 rfl rfl) (Nat.le_of_ble_eq_true rfl) hf (fun r8 σ7 hf => ?_)
        obtain rfl := Option.some.inj hf
        exact zr_iret C (by decide +kernel) T
      · refine zr_iconst (v := (-1)) (-1) 34 C (by decide +kernel) rfl rfl ?_
        obtain rfl := Option.some.inj hf
        exact zr_iret C (by decide +kernel) T
    · refine zr_bipush (v := (-2)) (-2) 21 C (by decide +kernel) rfl rfl ?_
      obtain rfl := Option.some.inj hf
      exact zr_iret C (by decide +kernel) T
theorem y_X_shape : zY yX10_shape cX10_shape 4 (some .int) 3 := ⟨q_698, q_72, by decide +kernel, by decide +kernel, by decide +kernel⟩
theorem k_X_shape {l : Launch} {d : zD} {F : zF} {h : Nat → Nat} {σ : zS} {lv : List (Option Value)} {pc : Nat} {own : String} {cc : ByteArray} {nL fr lo idx : Nat} {rest : List Value} {β : Type} {kf : Int32 → zS → Option β} {o2 : β} {ad av : Nat → Nat}  {p1 : Int32} {p2 : Int32} {p3 : Int32} (pc' : Nat) (C : zOk d F own cc nL fr lo) (E : zXe d ad av) (hd : decode cc pc = .ok (.invokevirtual idx, 3)) (hp : pc + 3 = pc') (hq : Cond.methodLink own idx yX10_shape ∈ zW) (hm : 1 + 1 ≤ fr ∧ 8 + (4 + 11) + 23 ≤ lo) (hr : (rest.map fun v => v.category).sum ≤ 8) (hf : zbd (f_X_shape p1 p2 p3 σ) kf = some o2) (K : ∀ (r : Int32) (σ' : zS), kf r σ' = some o2 → V l d F 0 0 (XW d h σ') lv pc' (.int r :: rest)) : V l d F 0 0 (XW d h σ) lv pc (.int p3 :: .int p2 :: .int p1 :: .ref (h 0) :: rest) := by
  obtain ⟨q, h1, h2⟩ := zbd_some hf
  exact zr_callV y_X_shape ⟨q_696, q_697⟩ 0 rfl rfl (As := [.int p1, .int p2, .int p3]) (m_X_shape E h1) rfl rfl pc' C hd hp hq hm hr (K _ _ h2)
/-! StepsBeyond.loaf(I)I -/
def f_X_loaf (p1 : Int32) (σ : zS) : Option (Int32 × zS) :=
  zbd (f_X_isPlace p1 σ) fun r2 σ1 =>
  (if r2 = 0 then
  some (-2, σ1)
  else
  zlt (σ1.1 15) fun v3 => 
  zlt (zsg σ1 15 p1) fun σ4 =>
  some (v3, σ4))
set_option maxRecDepth 4000 in
theorem m_X_loaf {l : Launch} {d : zD} {h : Nat → Nat} {out : Int32 × zS} {σ : zS} {ad av : Nat → Nat} {p1 : Int32} (E : zXe d ad av) (hf : f_X_loaf p1 σ = some out) : zM l yX10_loaf cX10_loaf 3 (some .int) 2 42 d [.ref (h 0), .int p1] (XW d h σ) (XW d h out.2) (some (.int out.1)) := by
  refine zM_of [some (.ref (h 0)), some (.int p1), none] (by decide +kernel) rfl (Nat.le_of_ble_eq_true rfl) (fun F C T => ?_)
  unfold f_X_loaf at hf
  refine zr_iload_n 1 1 C (by decide +kernel) rfl rfl ?_
  refine k_X_isPlace (idx := 123) 4 C E (by decide +kernel) rfl q_612 (zb2 rfl rfl) (Nat.le_of_ble_eq_true rfl) hf (fun r2 σ1 hf => ?_)
  refine zr_if_ne (off := 6) 10 7 C (by decide +kernel) (by decide) rfl hf (fun hf => ?_) (fun hf => ?_)
  · refine zr_aload_n 0 11 C (by decide +kernel) rfl rfl ?_
    refine xg_0_15 (idx := 182) 14 C (by decide +kernel) rfl q_573 ?_
    refine zr_name hf (fun v3 hf => ?_)
    refine zr_istore_n 2 [some (.ref (h 0)), some (.int p1), some (.int v3)] 15 C (by decide +kernel) rfl (by decide) rfl rfl ?_
    refine zr_aload_n 0 16 C (by decide +kernel) rfl rfl ?_
    refine zr_iload_n 1 17 C (by decide +kernel) rfl rfl ?_
    refine xp_0_15 (idx := 182) 20 C (by decide +kernel) rfl q_573 hf (fun σ4 hf => ?_)
    refine zr_iload_n 2 21 C (by decide +kernel) rfl rfl ?_
    obtain rfl := Option.some.inj hf
    exact zr_iret C (by decide +kernel) T
  · refine zr_bipush (v := (-2)) (-2) 9 C (by decide +kernel) rfl rfl ?_
    obtain rfl := Option.some.inj hf
    exact zr_iret C (by decide +kernel) T
theorem y_X_loaf : zY yX10_loaf cX10_loaf 3 (some .int) 1 := ⟨q_706, q_72, by decide +kernel, by decide +kernel, by decide +kernel⟩
theorem k_X_loaf {l : Launch} {d : zD} {F : zF} {h : Nat → Nat} {σ : zS} {lv : List (Option Value)} {pc : Nat} {own : String} {cc : ByteArray} {nL fr lo idx : Nat} {rest : List Value} {β : Type} {kf : Int32 → zS → Option β} {o2 : β} {ad av : Nat → Nat}  {p1 : Int32} (pc' : Nat) (C : zOk d F own cc nL fr lo) (E : zXe d ad av) (hd : decode cc pc = .ok (.invokevirtual idx, 3)) (hp : pc + 3 = pc') (hq : Cond.methodLink own idx yX10_loaf ∈ zW) (hm : 2 + 1 ≤ fr ∧ 8 + (3 + 11) + 42 ≤ lo) (hr : (rest.map fun v => v.category).sum ≤ 8) (hf : zbd (f_X_loaf p1 σ) kf = some o2) (K : ∀ (r : Int32) (σ' : zS), kf r σ' = some o2 → V l d F 0 0 (XW d h σ') lv pc' (.int r :: rest)) : V l d F 0 0 (XW d h σ) lv pc (.int p1 :: .ref (h 0) :: rest) := by
  obtain ⟨q, h1, h2⟩ := zbd_some hf
  exact zr_callV y_X_loaf ⟨q_704, q_705⟩ 0 rfl rfl (As := [.int p1]) (m_X_loaf E h1) rfl rfl pc' C hd hp hq hm hr (K _ _ h2)
/-! StepsBeyond.reachOf(I)I -/
def f_X_reachOf (p1 : Int32) (σ : zS) : Option (Int32 × zS) :=
  zin p1 12 (zlt (σ.2 25 p1.toNatClampNeg) fun v1 => 
  zin p1 12 ((if (σ.2 23 p1.toNatClampNeg) = 3 then
  some (v1 / 2, σ)
  else
  (if (σ.2 23 p1.toNatClampNeg) = 4 then
  zbd (f_Vi_farWith 0 σ) fun r3 σ2 =>
  some (v1 + r3, σ2)
  else
  (if (σ.2 23 p1.toNatClampNeg) = 5 then
  zbd (f_Vi_farWith 1 σ) fun r5 σ4 =>
  some (zmax 0 ((v1 + r5) - 1), σ4)
  else
  some (v1, σ))))))
set_option maxRecDepth 4000 in
theorem m_X_reachOf {l : Launch} {d : zD} {h : Nat → Nat} {out : Int32 × zS} {σ : zS} {ad av : Nat → Nat} {p1 : Int32} (E : zXe d ad av) (hf : f_X_reachOf p1 σ = some out) : zM l yX10_reachOf cX10_reachOf 3 (some .int) 3 67 d [.ref (h 0), .int p1] (XW d h σ) (XW d h out.2) (some (.int out.1)) := by
  refine zM_of [some (.ref (h 0)), some (.int p1), none] (by decide +kernel) rfl (Nat.le_of_ble_eq_true rfl) (fun F C T => ?_)
  unfold f_X_reachOf at hf
  refine zr_aload_n 0 1 C (by decide +kernel) rfl rfl ?_
  refine xg_0_4 (idx := 40) 4 C (by decide +kernel) rfl q_562 ?_
  refine xg_5_2 (idx := 192) 7 C (by decide +kernel) rfl q_242 ?_
  refine zr_iload_n 1 8 C (by decide +kernel) rfl rfl ?_
  refine xl_25 9 C (by decide +kernel) rfl hf (fun hf => ?_)
  refine zr_name hf (fun v1 hf => ?_)
  refine zr_istore_n 2 [some (.ref (h 0)), some (.int p1), some (.int v1)] 10 C (by decide +kernel) rfl (by decide) rfl rfl ?_
  refine zr_aload_n 0 11 C (by decide +kernel) rfl rfl ?_
  refine xg_0_4 (idx := 40) 14 C (by decide +kernel) rfl q_562 ?_
  refine xg_5_0 (idx := 186) 17 C (by decide +kernel) rfl q_238 ?_
  refine zr_iload_n 1 18 C (by decide +kernel) rfl rfl ?_
  refine xl_23 19 C (by decide +kernel) rfl hf (fun hf => ?_)
  refine zr_tcase (dflt := 57) (lw := 3) (hi := 5) (offs := #[25, 29, 40]) (len := 25) (off := 25) (j := 0) 3 44 C (by decide +kernel) (by decide) (by decide) rfl (by decide) hf (fun hf => ?_) (fun hn0 hf => ?_)
  · refine zr_iload_n 2 45 C (by decide +kernel) rfl rfl ?_
    refine zr_iconst (v := 2) 2 46 C (by decide +kernel) rfl rfl ?_
    refine zr_idiv 47 C (by decide +kernel) rfl (by decide) ?_
    obtain rfl := Option.some.inj hf
    exact zr_iret C (by decide +kernel) T
  refine zr_tcase (dflt := 57) (lw := 3) (hi := 5) (offs := #[25, 29, 40]) (len := 25) (off := 29) (j := 1) 4 48 C (by decide +kernel) (by decide) (by decide) rfl (by decide) hf (fun hf => ?_) (fun hn1 hf => ?_)
  · refine zr_iload_n 2 49 C (by decide +kernel) rfl rfl ?_
    refine zr_aload_n 0 50 C (by decide +kernel) rfl rfl ?_
    refine xg_0_2 (idx := 26) 53 C (by decide +kernel) rfl q_560 ?_
    refine zr_iconst (v := 0) 0 54 C (by decide +kernel) rfl rfl ?_
    refine k_Vi_farWith (idx := 149) 57 C E (by decide +kernel) rfl q_645 (zb2 rfl rfl) (Nat.le_of_ble_eq_true rfl) hf (fun r3 σ2 hf => ?_)
    refine zr_iadd 58 C (by decide +kernel) rfl ?_
    obtain rfl := Option.some.inj hf
    exact zr_iret C (by decide +kernel) T
  refine zr_tcase (dflt := 57) (lw := 3) (hi := 5) (offs := #[25, 29, 40]) (len := 25) (off := 40) (j := 2) 5 59 C (by decide +kernel) (by decide) (by decide) rfl (by decide) hf (fun hf => ?_) (fun hn2 hf => ?_)
  · refine zr_iconst (v := 0) 0 60 C (by decide +kernel) rfl rfl ?_
    refine zr_iload_n 2 61 C (by decide +kernel) rfl rfl ?_
    refine zr_aload_n 0 62 C (by decide +kernel) rfl rfl ?_
    refine xg_0_2 (idx := 26) 65 C (by decide +kernel) rfl q_560 ?_
    refine zr_iconst (v := 1) 1 66 C (by decide +kernel) rfl rfl ?_
    refine k_Vi_farWith (idx := 149) 69 C E (by decide +kernel) rfl q_645 (zb2 rfl rfl) (Nat.le_of_ble_eq_true rfl) hf (fun r5 σ4 hf => ?_)
    refine zr_iadd 70 C (by decide +kernel) rfl ?_
    refine zr_iconst (v := 1) 1 71 C (by decide +kernel) rfl rfl ?_
    refine zr_isub 72 C (by decide +kernel) rfl ?_
    refine zr_mmax (idx := 315) 75 C (by decide +kernel) rfl q_719 (zb2 rfl rfl) (Nat.le_of_ble_eq_true rfl) ?_
    obtain rfl := Option.some.inj hf
    exact zr_iret C (by decide +kernel) T
  refine zr_tdflt (dflt := 57) (lw := 3) (hi := 5) (offs := #[25, 29, 40]) (len := 25) 76 C (by decide +kernel) (by decide) (by decide) (fun j hj hx => ?_) ?_
  · rcases (show j = 0 ∨ j = 1 ∨ j = 2 by have hj2 : j < 3 := hj; omega) with rfl | rfl | rfl
    · exact absurd (z_ti (c := 3) (by decide) hx) hn0
    · exact absurd (z_ti (c := 4) (by decide) hx) hn1
    · exact absurd (z_ti (c := 5) (by decide) hx) hn2
  refine zr_iload_n 2 77 C (by decide +kernel) rfl rfl ?_
  obtain rfl := Option.some.inj hf
  exact zr_iret C (by decide +kernel) T
theorem y_X_reachOf : zY yX10_reachOf cX10_reachOf 3 (some .int) 1 := ⟨q_718, q_72, by decide +kernel, by decide +kernel, by decide +kernel⟩
theorem k_X_reachOf {l : Launch} {d : zD} {F : zF} {h : Nat → Nat} {σ : zS} {lv : List (Option Value)} {pc : Nat} {own : String} {cc : ByteArray} {nL fr lo idx : Nat} {rest : List Value} {β : Type} {kf : Int32 → zS → Option β} {o2 : β} {ad av : Nat → Nat}  {p1 : Int32} (pc' : Nat) (C : zOk d F own cc nL fr lo) (E : zXe d ad av) (hd : decode cc pc = .ok (.invokevirtual idx, 3)) (hp : pc + 3 = pc') (hq : Cond.methodLink own idx yX10_reachOf ∈ zW) (hm : 3 + 1 ≤ fr ∧ 8 + (3 + 11) + 67 ≤ lo) (hr : (rest.map fun v => v.category).sum ≤ 8) (hf : zbd (f_X_reachOf p1 σ) kf = some o2) (K : ∀ (r : Int32) (σ' : zS), kf r σ' = some o2 → V l d F 0 0 (XW d h σ') lv pc' (.int r :: rest)) : V l d F 0 0 (XW d h σ) lv pc (.int p1 :: .ref (h 0) :: rest) := by
  obtain ⟨q, h1, h2⟩ := zbd_some hf
  exact zr_callV y_X_reachOf ⟨q_717, q_19⟩ 0 rfl rfl (As := [.int p1]) (m_X_reachOf E h1) rfl rfl pc' C hd hp hq hm hr (K _ _ h2)
/-! StepsBeyond.middleOf(I)I -/
def f_X_middleOf (p1 : Int32) (σ : zS) : Option (Int32 × zS) :=
  zin p1 12 ((if (σ.2 23 p1.toNatClampNeg) = 5 then
  some (σ.1 15, σ)
  else
  zin p1 12 (zin (σ.2 24 p1.toNatClampNeg) 20 (some (σ.2 17 (σ.2 24 p1.toNatClampNeg).toNatClampNeg, σ)))))
set_option maxRecDepth 4000 in
theorem m_X_middleOf {l : Launch} {d : zD} {h : Nat → Nat} {out : Int32 × zS} {σ : zS} {ad av : Nat → Nat} {p1 : Int32} (E : zXe d ad av) (hf : f_X_middleOf p1 σ = some out) : zM l yX10_middleOf cX10_middleOf 2 (some .int) 0 0 d [.ref (h 0), .int p1] (XW d h σ) (XW d h out.2) (some (.int out.1)) := by
  refine zM_of [some (.ref (h 0)), some (.int p1)] (by decide +kernel) rfl (Nat.le_of_ble_eq_true rfl) (fun F C T => ?_)
  unfold f_X_middleOf at hf
  refine zr_aload_n 0 1 C (by decide +kernel) rfl rfl ?_
  refine xg_0_4 (idx := 40) 4 C (by decide +kernel) rfl q_562 ?_
  refine xg_5_0 (idx := 186) 7 C (by decide +kernel) rfl q_238 ?_
  refine zr_iload_n 1 8 C (by decide +kernel) rfl rfl ?_
  refine xl_23 9 C (by decide +kernel) rfl hf (fun hf => ?_)
  refine zr_iconst (v := 5) 5 10 C (by decide +kernel) rfl rfl ?_
  refine zr_icmp_ne (off := 10) 20 13 C (by decide +kernel) (by decide) rfl hf (fun hf => ?_) (fun hf => ?_)
  · refine zr_aload_n 0 21 C (by decide +kernel) rfl rfl ?_
    refine xg_0_2 (idx := 26) 24 C (by decide +kernel) rfl q_560 ?_
    refine xg_3_0 (idx := 318) 27 C (by decide +kernel) rfl q_183 ?_
    refine zr_aload_n 0 28 C (by decide +kernel) rfl rfl ?_
    refine xg_0_4 (idx := 40) 31 C (by decide +kernel) rfl q_562 ?_
    refine xg_5_1 (idx := 189) 34 C (by decide +kernel) rfl q_240 ?_
    refine zr_iload_n 1 35 C (by decide +kernel) rfl rfl ?_
    refine xl_24 36 C (by decide +kernel) rfl hf (fun hf => ?_)
    refine xl_17 37 C (by decide +kernel) rfl hf (fun hf => ?_)
    obtain rfl := Option.some.inj hf
    exact zr_iret C (by decide +kernel) T
  · refine zr_aload_n 0 14 C (by decide +kernel) rfl rfl ?_
    refine xg_0_15 (idx := 182) 17 C (by decide +kernel) rfl q_573 ?_
    refine zr_goto (off := 20) 37 C (by decide +kernel) (by decide) ?_
    obtain rfl := Option.some.inj hf
    exact zr_iret C (by decide +kernel) T
theorem y_X_middleOf : zY yX10_middleOf cX10_middleOf 2 (some .int) 1 := ⟨q_723, q_72, by decide +kernel, by decide +kernel, by decide +kernel⟩
theorem k_X_middleOf {l : Launch} {d : zD} {F : zF} {h : Nat → Nat} {σ : zS} {lv : List (Option Value)} {pc : Nat} {own : String} {cc : ByteArray} {nL fr lo idx : Nat} {rest : List Value} {β : Type} {kf : Int32 → zS → Option β} {o2 : β} {ad av : Nat → Nat}  {p1 : Int32} (pc' : Nat) (C : zOk d F own cc nL fr lo) (E : zXe d ad av) (hd : decode cc pc = .ok (.invokevirtual idx, 3)) (hp : pc + 3 = pc') (hq : Cond.methodLink own idx yX10_middleOf ∈ zW) (hm : 0 + 1 ≤ fr ∧ 8 + (2 + 11) + 0 ≤ lo) (hr : (rest.map fun v => v.category).sum ≤ 8) (hf : zbd (f_X_middleOf p1 σ) kf = some o2) (K : ∀ (r : Int32) (σ' : zS), kf r σ' = some o2 → V l d F 0 0 (XW d h σ') lv pc' (.int r :: rest)) : V l d F 0 0 (XW d h σ) lv pc (.int p1 :: .ref (h 0) :: rest) := by
  obtain ⟨q, h1, h2⟩ := zbd_some hf
  exact zr_callV y_X_middleOf ⟨q_722, q_20⟩ 0 rfl rfl (As := [.int p1]) (m_X_middleOf E h1) rfl rfl pc' C hd hp hq hm hr (K _ _ h2)
/-! StepsBeyond.shapeTold(II)I -/
def f_X_shapeTold (p1 : Int32) (p2 : Int32) (σ : zS) : Option (Int32 × zS) :=
  zbd (f_Sh_knows p1 σ) fun r2 σ1 =>
  (if r2 = 0 then
  some (-5, σ1)
  else
  (if p2 = 0 then
  zin p1 12 (some (σ1.2 23 p1.toNatClampNeg, σ1))
  else
  (if p2 = 1 then
  zin p1 12 (some (σ1.2 24 p1.toNatClampNeg, σ1))
  else
  (if p2 = 2 then
  zin p1 12 (some (σ1.2 25 p1.toNatClampNeg, σ1))
  else
  (if p2 = 3 then
  zbd (f_X_reachOf p1 σ1) fun r4 σ3 =>
  some (r4, σ3)
  else
  (if p2 = 4 then
  zbd (f_X_middleOf p1 σ1) fun r6 σ5 =>
  some (r6, σ5)
  else
  some (-7, σ1)))))))
set_option maxRecDepth 4000 in
theorem m_X_shapeTold {l : Launch} {d : zD} {h : Nat → Nat} {out : Int32 × zS} {σ : zS} {ad av : Nat → Nat} {p1 : Int32} {p2 : Int32} (E : zXe d ad av) (hf : f_X_shapeTold p1 p2 σ = some out) : zM l yX10_shapeTold cX10_shapeTold 3 (some .int) 4 89 d [.ref (h 0), .int p1, .int p2] (XW d h σ) (XW d h out.2) (some (.int out.1)) := by
  refine zM_of [some (.ref (h 0)), some (.int p1), some (.int p2)] (by decide +kernel) rfl (Nat.le_of_ble_eq_true rfl) (fun F C T => ?_)
  unfold f_X_shapeTold at hf
  refine zr_aload_n 0 1 C (by decide +kernel) rfl rfl ?_
  refine xg_0_4 (idx := 40) 4 C (by decide +kernel) rfl q_562 ?_
  refine zr_iload_n 1 5 C (by decide +kernel) rfl rfl ?_
  refine k_Sh_knows (idx := 185) 8 C E (by decide +kernel) rfl q_711 (zb2 rfl rfl) (Nat.le_of_ble_eq_true rfl) hf (fun r2 σ1 hf => ?_)
  refine zr_if_ne (off := 6) 14 11 C (by decide +kernel) (by decide) rfl hf (fun hf => ?_) (fun hf => ?_)
  · refine zr_iload_n 2 15 C (by decide +kernel) rfl rfl ?_
    refine zr_tcase (dflt := 75) (lw := 0) (hi := 4) (offs := #[33, 43, 53, 63, 69]) (len := 33) (off := 33) (j := 0) 0 48 C (by decide +kernel) (by decide) (by decide) rfl (by decide) hf (fun hf => ?_) (fun hn0 hf => ?_)
    · refine zr_aload_n 0 49 C (by decide +kernel) rfl rfl ?_
      refine xg_0_4 (idx := 40) 52 C (by decide +kernel) rfl q_562 ?_
      refine xg_5_0 (idx := 186) 55 C (by decide +kernel) rfl q_238 ?_
      refine zr_iload_n 1 56 C (by decide +kernel) rfl rfl ?_
      refine xl_23 57 C (by decide +kernel) rfl hf (fun hf => ?_)
      obtain rfl := Option.some.inj hf
      exact zr_iret C (by decide +kernel) T
    refine zr_tcase (dflt := 75) (lw := 0) (hi := 4) (offs := #[33, 43, 53, 63, 69]) (len := 33) (off := 43) (j := 1) 1 58 C (by decide +kernel) (by decide) (by decide) rfl (by decide) hf (fun hf => ?_) (fun hn1 hf => ?_)
    · refine zr_aload_n 0 59 C (by decide +kernel) rfl rfl ?_
      refine xg_0_4 (idx := 40) 62 C (by decide +kernel) rfl q_562 ?_
      refine xg_5_1 (idx := 189) 65 C (by decide +kernel) rfl q_240 ?_
      refine zr_iload_n 1 66 C (by decide +kernel) rfl rfl ?_
      refine xl_24 67 C (by decide +kernel) rfl hf (fun hf => ?_)
      obtain rfl := Option.some.inj hf
      exact zr_iret C (by decide +kernel) T
    refine zr_tcase (dflt := 75) (lw := 0) (hi := 4) (offs := #[33, 43, 53, 63, 69]) (len := 33) (off := 53) (j := 2) 2 68 C (by decide +kernel) (by decide) (by decide) rfl (by decide) hf (fun hf => ?_) (fun hn2 hf => ?_)
    · refine zr_aload_n 0 69 C (by decide +kernel) rfl rfl ?_
      refine xg_0_4 (idx := 40) 72 C (by decide +kernel) rfl q_562 ?_
      refine xg_5_2 (idx := 192) 75 C (by decide +kernel) rfl q_242 ?_
      refine zr_iload_n 1 76 C (by decide +kernel) rfl rfl ?_
      refine xl_25 77 C (by decide +kernel) rfl hf (fun hf => ?_)
      obtain rfl := Option.some.inj hf
      exact zr_iret C (by decide +kernel) T
    refine zr_tcase (dflt := 75) (lw := 0) (hi := 4) (offs := #[33, 43, 53, 63, 69]) (len := 33) (off := 63) (j := 3) 3 78 C (by decide +kernel) (by decide) (by decide) rfl (by decide) hf (fun hf => ?_) (fun hn3 hf => ?_)
    · refine zr_aload_n 0 79 C (by decide +kernel) rfl rfl ?_
      refine zr_iload_n 1 80 C (by decide +kernel) rfl rfl ?_
      refine k_X_reachOf (idx := 195) 83 C E (by decide +kernel) rfl q_715 (zb2 rfl rfl) (Nat.le_of_ble_eq_true rfl) hf (fun r4 σ3 hf => ?_)
      obtain rfl := Option.some.inj hf
      exact zr_iret C (by decide +kernel) T
    refine zr_tcase (dflt := 75) (lw := 0) (hi := 4) (offs := #[33, 43, 53, 63, 69]) (len := 33) (off := 69) (j := 4) 4 84 C (by decide +kernel) (by decide) (by decide) rfl (by decide) hf (fun hf => ?_) (fun hn4 hf => ?_)
    · refine zr_aload_n 0 85 C (by decide +kernel) rfl rfl ?_
      refine zr_iload_n 1 86 C (by decide +kernel) rfl rfl ?_
      refine k_X_middleOf (idx := 198) 89 C E (by decide +kernel) rfl q_720 (zb2 rfl rfl) (Nat.le_of_ble_eq_true rfl) hf (fun r6 σ5 hf => ?_)
      obtain rfl := Option.some.inj hf
      exact zr_iret C (by decide +kernel) T
    refine zr_tdflt (dflt := 75) (lw := 0) (hi := 4) (offs := #[33, 43, 53, 63, 69]) (len := 33) 90 C (by decide +kernel) (by decide) (by decide) (fun j hj hx => ?_) ?_
    · rcases (show j = 0 ∨ j = 1 ∨ j = 2 ∨ j = 3 ∨ j = 4 by have hj2 : j < 5 := hj; omega) with rfl | rfl | rfl | rfl | rfl
      · exact absurd (z_ti (c := 0) (by decide) hx) hn0
      · exact absurd (z_ti (c := 1) (by decide) hx) hn1
      · exact absurd (z_ti (c := 2) (by decide) hx) hn2
      · exact absurd (z_ti (c := 3) (by decide) hx) hn3
      · exact absurd (z_ti (c := 4) (by decide) hx) hn4
    refine zr_bipush (v := (-7)) (-7) 92 C (by decide +kernel) rfl rfl ?_
    obtain rfl := Option.some.inj hf
    exact zr_iret C (by decide +kernel) T
  · refine zr_bipush (v := (-5)) (-5) 13 C (by decide +kernel) rfl rfl ?_
    obtain rfl := Option.some.inj hf
    exact zr_iret C (by decide +kernel) T
theorem y_X_shapeTold : zY yX10_shapeTold cX10_shapeTold 3 (some .int) 2 := ⟨q_710, q_72, by decide +kernel, by decide +kernel, by decide +kernel⟩
theorem k_X_shapeTold {l : Launch} {d : zD} {F : zF} {h : Nat → Nat} {σ : zS} {lv : List (Option Value)} {pc : Nat} {own : String} {cc : ByteArray} {nL fr lo idx : Nat} {rest : List Value} {β : Type} {kf : Int32 → zS → Option β} {o2 : β} {ad av : Nat → Nat}  {p1 : Int32} {p2 : Int32} (pc' : Nat) (C : zOk d F own cc nL fr lo) (E : zXe d ad av) (hd : decode cc pc = .ok (.invokevirtual idx, 3)) (hp : pc + 3 = pc') (hq : Cond.methodLink own idx yX10_shapeTold ∈ zW) (hm : 4 + 1 ≤ fr ∧ 8 + (3 + 11) + 89 ≤ lo) (hr : (rest.map fun v => v.category).sum ≤ 8) (hf : zbd (f_X_shapeTold p1 p2 σ) kf = some o2) (K : ∀ (r : Int32) (σ' : zS), kf r σ' = some o2 → V l d F 0 0 (XW d h σ') lv pc' (.int r :: rest)) : V l d F 0 0 (XW d h σ) lv pc (.int p2 :: .int p1 :: .ref (h 0) :: rest) := by
  obtain ⟨q, h1, h2⟩ := zbd_some hf
  exact zr_callV y_X_shapeTold ⟨q_708, q_709⟩ 0 rfl rfl (As := [.int p1, .int p2]) (m_X_shapeTold E h1) rfl rfl pc' C hd hp hq hm hr (K _ _ h2)
/-! StepsBeyond.measure(LStepsBeyond$Area;I)V -/
def f_X_measure_9_115 (k79 : Int32 → Int32 → Int32 → Int32 → zS → Option (Int32 × zS)) (x2 : Int32) (x3 : Int32) (x5 : Int32) (x6 : Int32) (σ : zS) : Option (Int32 × zS) :=
  k79 x2 x3 x5 (x6 + 1) σ
set_option maxRecDepth 4000 in
theorem w_X_measure_9_115 {l : Launch} {d : zD} {F : zF} {h : Nat → Nat} {out : Int32 × zS} {ad av : Nat → Nat}  {k79 : Int32 → Int32 → Int32 → Int32 → zS → Option (Int32 × zS)} (C : zOk d F RX10 cX10_measure 7 4 89) (T : zRt d F none none (XW d h out.2)) (E : zXe d ad av) (H79 : ∀ (x2 : Int32) (x3 : Int32) (x5 : Int32) (x6 : Int32) (σ : zS), k79 x2 x3 x5 x6 σ = some out → V l d F 0 0 (XW d h σ) [some (.ref (h 0)), some (.ref (h 9)), some (.int x2), some (.int x3), none, some (.int x5), some (.int x6)] 79 []) (x2 : Int32) (x3 : Int32) (x5 : Int32) (x6 : Int32) (σ : zS) (hf : f_X_measure_9_115 k79 x2 x3 x5 x6 σ = some out) : V l d F 0 0 (XW d h σ) [some (.ref (h 0)), some (.ref (h 9)), some (.int x2), some (.int x3), none, some (.int x5), some (.int x6)] 115 [] := by
  unfold f_X_measure_9_115 at hf
  refine zr_iinc (j := 1) 6 [some (.ref (h 0)), some (.ref (h 9)), some (.int x2), some (.int x3), none, some (.int x5), some (.int (x6 + 1))] 118 C (by decide +kernel) rfl rfl rfl (by decide) rfl rfl ?_
  refine zr_goto (off := -39) 79 C (by decide +kernel) (by decide) ?_
  exact H79 _ _ _ _ _ hf
def f_X_measure_9_79b (k79 : Int32 → Int32 → Int32 → Int32 → zS → Option (Int32 × zS)) (x2 : Int32) (x3 : Int32) (x5 : Int32) (x6 : Int32) (σ : zS) : Option (Int32 × zS) :=
  (if (σ.1 307) ≤ x6 then
  (if x3 = 3 then
  zin x2 12 (zbd (f_Ar_fillUpTo_9 (2 * (σ.2 25 x2.toNatClampNeg)) σ) fun _ σ1 =>
  some (0, σ1))
  else
  some (0, σ))
  else
  zbd (f_X_has x5 x6 σ) fun r3 σ2 =>
  (if r3 = 0 then
  f_X_measure_9_115 k79 x2 x3 x5 x6 σ2
  else
  zin x6 20 (zbd (f_Ar_include_9 (σ2.2 17 x6.toNatClampNeg) σ2) fun _ σ4 =>
  f_X_measure_9_115 k79 x2 x3 x5 x6 σ4)))
set_option maxRecDepth 4000 in
theorem w_X_measure_9_79b {l : Launch} {d : zD} {F : zF} {h : Nat → Nat} {out : Int32 × zS} {ad av : Nat → Nat}  {k79 : Int32 → Int32 → Int32 → Int32 → zS → Option (Int32 × zS)} (C : zOk d F RX10 cX10_measure 7 4 89) (T : zRt d F none none (XW d h out.2)) (E : zXe d ad av) (H79 : ∀ (x2 : Int32) (x3 : Int32) (x5 : Int32) (x6 : Int32) (σ : zS), k79 x2 x3 x5 x6 σ = some out → V l d F 0 0 (XW d h σ) [some (.ref (h 0)), some (.ref (h 9)), some (.int x2), some (.int x3), none, some (.int x5), some (.int x6)] 79 []) (x2 : Int32) (x3 : Int32) (x5 : Int32) (x6 : Int32) (σ : zS) (hf : f_X_measure_9_79b k79 x2 x3 x5 x6 σ = some out) : V l d F 0 0 (XW d h σ) [some (.ref (h 0)), some (.ref (h 9)), some (.int x2), some (.int x3), none, some (.int x5), some (.int x6)] 79 [] := by
  unfold f_X_measure_9_79b at hf
  refine zr_iload 6 81 C (by decide +kernel) rfl rfl ?_
  refine zr_aload_n 0 82 C (by decide +kernel) rfl rfl ?_
  refine xg_0_2 (idx := 26) 85 C (by decide +kernel) rfl q_560 ?_
  refine xg_3_7 (idx := 251) 88 C (by decide +kernel) rfl q_193 ?_
  refine zr_icmp_ge (off := 33) 121 91 C (by decide +kernel) (by decide) rfl hf (fun hf => ?_) (fun hf => ?_)
  · refine zr_iload_n 3 122 C (by decide +kernel) rfl rfl ?_
    refine zr_iconst (v := 3) 3 123 C (by decide +kernel) rfl rfl ?_
    refine zr_icmp_ne (off := 18) 141 126 C (by decide +kernel) (by decide) rfl hf (fun hf => ?_) (fun hf => ?_)
    · obtain rfl := Option.some.inj hf
      exact zr_vret C (by decide +kernel) T
    · refine zr_aload_n 1 127 C (by decide +kernel) rfl rfl ?_
      refine zr_iconst (v := 2) 2 128 C (by decide +kernel) rfl rfl ?_
      refine zr_aload_n 0 129 C (by decide +kernel) rfl rfl ?_
      refine xg_0_4 (idx := 40) 132 C (by decide +kernel) rfl q_562 ?_
      refine xg_5_2 (idx := 192) 135 C (by decide +kernel) rfl q_242 ?_
      refine zr_iload_n 2 136 C (by decide +kernel) rfl rfl ?_
      refine xl_25 137 C (by decide +kernel) rfl hf (fun hf => ?_)
      refine zr_imul 138 C (by decide +kernel) rfl ?_
      refine k_Ar_fillUpTo_9 (idx := 328) 141 C E (by decide +kernel) rfl q_753 (zb2 rfl rfl) (Nat.le_of_ble_eq_true rfl) hf (fun _ σ1 hf => ?_)
      obtain rfl := Option.some.inj hf
      exact zr_vret C (by decide +kernel) T
  · refine zr_iload 5 93 C (by decide +kernel) rfl rfl ?_
    refine zr_iload 6 95 C (by decide +kernel) rfl rfl ?_
    refine k_X_has (idx := 145) 98 C E (by decide +kernel) rfl q_638 (zb2 rfl rfl) (Nat.le_of_ble_eq_true rfl) hf (fun r3 σ2 hf => ?_)
    refine zr_if_eq (off := 17) 115 101 C (by decide +kernel) (by decide) rfl hf (fun hf => ?_) (fun hf => ?_)
    · exact w_X_measure_9_115 C T E H79 _ _ _ _ _ hf
    · refine zr_aload_n 1 102 C (by decide +kernel) rfl rfl ?_
      refine zr_aload_n 0 103 C (by decide +kernel) rfl rfl ?_
      refine xg_0_2 (idx := 26) 106 C (by decide +kernel) rfl q_560 ?_
      refine xg_3_0 (idx := 318) 109 C (by decide +kernel) rfl q_183 ?_
      refine zr_iload 6 111 C (by decide +kernel) rfl rfl ?_
      refine xl_17 112 C (by decide +kernel) rfl hf (fun hf => ?_)
      refine k_Ar_include_9 (idx := 325) 115 C E (by decide +kernel) rfl q_752 (zb2 rfl rfl) (Nat.le_of_ble_eq_true rfl) hf (fun _ σ4 hf => ?_)
      exact w_X_measure_9_115 C T E H79 _ _ _ _ _ hf
def f_X_measure_9_79  : Nat → Int32 → Int32 → Int32 → Int32 → zS → Option (Int32 × zS)
  | 0, _, _, _, _, _ => none
  | n + 1, x2, x3, x5, x6,  σ => f_X_measure_9_79b (fun x2 x3 x5 x6 σ => f_X_measure_9_79  n x2 x3 x5 x6 σ) x2 x3 x5 x6 σ
theorem w_X_measure_9_79 {l : Launch} {d : zD} {F : zF} {h : Nat → Nat} {out : Int32 × zS} {ad av : Nat → Nat}   (C : zOk d F RX10 cX10_measure 7 4 89) (T : zRt d F none none (XW d h out.2)) (E : zXe d ad av)  : ∀ (n : Nat) (x2 : Int32) (x3 : Int32) (x5 : Int32) (x6 : Int32) (σ : zS), f_X_measure_9_79  n x2 x3 x5 x6 σ = some out → V l d F 0 0 (XW d h σ) [some (.ref (h 0)), some (.ref (h 9)), some (.int x2), some (.int x3), none, some (.int x5), some (.int x6)] 79 [] := by
  intro n
  induction n with
  | zero =>
    intro x2 x3 x5 x6 σ hf
    cases hf
  | succ n ih =>
    intro x2 x3 x5 x6 σ hf
    exact w_X_measure_9_79b C T E ih x2 x3 x5 x6 σ hf
def f_X_measure_9_74  (x2 : Int32) (x3 : Int32) (y0 : Int32) (σ : zS) : Option (Int32 × zS) :=
  f_X_measure_9_79 zfu x2 x3 y0 0 σ
set_option maxRecDepth 4000 in
theorem w_X_measure_9_74 {l : Launch} {d : zD} {F : zF} {h : Nat → Nat} {out : Int32 × zS} {ad av : Nat → Nat}   (C : zOk d F RX10 cX10_measure 7 4 89) (T : zRt d F none none (XW d h out.2)) (E : zXe d ad av)  (x2 : Int32) (x3 : Int32) (y0 : Int32) (σ : zS) (hf : f_X_measure_9_74  x2 x3 y0 σ = some out) : V l d F 0 0 (XW d h σ) [some (.ref (h 0)), some (.ref (h 9)), some (.int x2), some (.int x3), none, none, none] 74 [.int y0] := by
  unfold f_X_measure_9_74 at hf
  refine zr_istore 5 [some (.ref (h 0)), some (.ref (h 9)), some (.int x2), some (.int x3), none, some (.int y0), none] 76 C (by decide +kernel) rfl (by decide) rfl rfl ?_
  refine zr_iconst (v := 0) 0 77 C (by decide +kernel) rfl rfl ?_
  refine zr_istore 6 [some (.ref (h 0)), some (.ref (h 9)), some (.int x2), some (.int x3), none, some (.int y0), some (.int 0)] 79 C (by decide +kernel) rfl (by decide) rfl rfl ?_
  exact w_X_measure_9_79 C T E zfu _ _ _ _ _ hf
def f_X_measure_9 (p2 : Int32) (σ : zS) : Option (Int32 × zS) :=
  zin p2 12 (zlt (σ.2 23 p2.toNatClampNeg) fun v1 => 
  zin p2 12 (zlt (σ.2 24 p2.toNatClampNeg) fun v2 => 
  (if v1 = 5 then
  zbd (f_X_reachOf p2 σ) fun r11 σ10 =>
  zbd (f_Ar_measureLoaf_9 (σ.1 15) r11 σ10) fun _ σ12 =>
  some (0, σ12)
  else
  zbd (f_X_isOfKind v1 2 σ) fun r4 σ3 =>
  zbd (f_X_reachOf p2 σ3) fun r6 σ5 =>
  zbd (f_Ar_clear_9 r4 r6 σ5) fun _ σ7 =>
  (if v1 = 0 then
  f_X_measure_9_74 p2 v1 (zshl 1 v2) σ7
  else
  zbd (f_Vi_townOf v2 σ7) fun r9 σ8 =>
  f_X_measure_9_74 p2 v1 r9 σ8))))
set_option maxRecDepth 4000 in
theorem m_X_measure_9 {l : Launch} {d : zD} {h : Nat → Nat} {out : Int32 × zS} {σ : zS} {ad av : Nat → Nat} {p2 : Int32} (E : zXe d ad av) (hf : f_X_measure_9 p2 σ = some out) : zM l yX10_measure cX10_measure 7 none 4 89 d [.ref (h 0), .ref (h 9), .int p2] (XW d h σ) (XW d h out.2) none := by
  refine zM_of [some (.ref (h 0)), some (.ref (h 9)), some (.int p2), none, none, none, none] (by decide +kernel) rfl (Nat.le_of_ble_eq_true rfl) (fun F C T => ?_)
  unfold f_X_measure_9 at hf
  refine zr_aload_n 0 1 C (by decide +kernel) rfl rfl ?_
  refine xg_0_4 (idx := 40) 4 C (by decide +kernel) rfl q_562 ?_
  refine xg_5_0 (idx := 186) 7 C (by decide +kernel) rfl q_238 ?_
  refine zr_iload_n 2 8 C (by decide +kernel) rfl rfl ?_
  refine xl_23 9 C (by decide +kernel) rfl hf (fun hf => ?_)
  refine zr_name hf (fun v1 hf => ?_)
  refine zr_istore_n 3 [some (.ref (h 0)), some (.ref (h 9)), some (.int p2), some (.int v1), none, none, none] 10 C (by decide +kernel) rfl (by decide) rfl rfl ?_
  refine zr_aload_n 0 11 C (by decide +kernel) rfl rfl ?_
  refine xg_0_4 (idx := 40) 14 C (by decide +kernel) rfl q_562 ?_
  refine xg_5_1 (idx := 189) 17 C (by decide +kernel) rfl q_240 ?_
  refine zr_iload_n 2 18 C (by decide +kernel) rfl rfl ?_
  refine xl_24 19 C (by decide +kernel) rfl hf (fun hf => ?_)
  refine zr_name hf (fun v2 hf => ?_)
  refine zr_istore 4 [some (.ref (h 0)), some (.ref (h 9)), some (.int p2), some (.int v1), some (.int v2), none, none] 21 C (by decide +kernel) rfl (by decide) rfl rfl ?_
  refine zr_iload_n 3 22 C (by decide +kernel) rfl rfl ?_
  refine zr_iconst (v := 5) 5 23 C (by decide +kernel) rfl rfl ?_
  refine zr_icmp_ne (off := 17) 40 26 C (by decide +kernel) (by decide) rfl hf (fun hf => ?_) (fun hf => ?_)
  · refine zr_aload_n 1 41 C (by decide +kernel) rfl rfl ?_
    refine zr_iload_n 3 42 C (by decide +kernel) rfl rfl ?_
    refine zr_iconst (v := 2) 2 43 C (by decide +kernel) rfl rfl ?_
    refine k_X_isOfKind (idx := 319) 46 C E (by decide +kernel) rfl q_746 (zb2 rfl rfl) (Nat.le_of_ble_eq_true rfl) hf (fun r4 σ3 hf => ?_)
    refine zr_aload_n 0 47 C (by decide +kernel) rfl rfl ?_
    refine zr_iload_n 2 48 C (by decide +kernel) rfl rfl ?_
    refine k_X_reachOf (idx := 195) 51 C E (by decide +kernel) rfl q_715 (zb2 rfl rfl) (Nat.le_of_ble_eq_true rfl) hf (fun r6 σ5 hf => ?_)
    refine k_Ar_clear_9 (idx := 322) 54 C E (by decide +kernel) rfl q_751 (zb2 rfl rfl) (Nat.le_of_ble_eq_true rfl) hf (fun _ σ7 hf => ?_)
    refine zr_iload_n 3 55 C (by decide +kernel) rfl rfl ?_
    refine zr_if_ne (off := 10) 65 58 C (by decide +kernel) (by decide) rfl hf (fun hf => ?_) (fun hf => ?_)
    · refine zr_aload_n 0 66 C (by decide +kernel) rfl rfl ?_
      refine xg_0_2 (idx := 26) 69 C (by decide +kernel) rfl q_560 ?_
      refine zr_iload 4 71 C (by decide +kernel) rfl rfl ?_
      refine k_Vi_townOf (idx := 153) 74 C E (by decide +kernel) rfl q_657 (zb2 rfl rfl) (Nat.le_of_ble_eq_true rfl) hf (fun r9 σ8 hf => ?_)
      refine zr_less (zA (zA (zA (zA (zN (zN (zN zE))))))) ?_
      exact w_X_measure_9_74 C T E _ _ _ _ hf
    · refine zr_iconst (v := 1) 1 59 C (by decide +kernel) rfl rfl ?_
      refine zr_iload 4 61 C (by decide +kernel) rfl rfl ?_
      refine zr_ishl 62 C (by decide +kernel) rfl ?_
      refine zr_goto (off := 12) 74 C (by decide +kernel) (by decide) ?_
      refine zr_less (zA (zA (zA (zA (zN (zN (zN zE))))))) ?_
      exact w_X_measure_9_74 C T E _ _ _ _ hf
  · refine zr_aload_n 1 27 C (by decide +kernel) rfl rfl ?_
    refine zr_aload_n 0 28 C (by decide +kernel) rfl rfl ?_
    refine xg_0_15 (idx := 182) 31 C (by decide +kernel) rfl q_573 ?_
    refine zr_aload_n 0 32 C (by decide +kernel) rfl rfl ?_
    refine zr_iload_n 2 33 C (by decide +kernel) rfl rfl ?_
    refine k_X_reachOf (idx := 195) 36 C E (by decide +kernel) rfl q_715 (zb2 rfl rfl) (Nat.le_of_ble_eq_true rfl) hf (fun r11 σ10 hf => ?_)
    refine k_Ar_measureLoaf_9 (idx := 208) 39 C E (by decide +kernel) rfl q_732 (zb2 rfl rfl) (Nat.le_of_ble_eq_true rfl) hf (fun _ σ12 hf => ?_)
    obtain rfl := Option.some.inj hf
    exact zr_vret C (by decide +kernel) T
theorem y_X_measure_9 : zY yX10_measure cX10_measure 7 none 2 := ⟨q_731, q_72, by decide +kernel, by decide +kernel, by decide +kernel⟩
theorem k_X_measure_9 {l : Launch} {d : zD} {F : zF} {h : Nat → Nat} {σ : zS} {lv : List (Option Value)} {pc : Nat} {own : String} {cc : ByteArray} {nL fr lo idx : Nat} {rest : List Value} {β : Type} {kf : Int32 → zS → Option β} {o2 : β} {ad av : Nat → Nat}  {p2 : Int32} (pc' : Nat) (C : zOk d F own cc nL fr lo) (E : zXe d ad av) (hd : decode cc pc = .ok (.invokevirtual idx, 3)) (hp : pc + 3 = pc') (hq : Cond.methodLink own idx yX10_measure ∈ zW) (hm : 4 + 1 ≤ fr ∧ 8 + (7 + 11) + 89 ≤ lo) (hr : (rest.map fun v => v.category).sum ≤ 8) (hf : zbd (f_X_measure_9 p2 σ) kf = some o2) (K : ∀ (r : Int32) (σ' : zS), kf r σ' = some o2 → V l d F 0 0 (XW d h σ') lv pc' (rest)) : V l d F 0 0 (XW d h σ) lv pc (.int p2 :: .ref (h 9) :: .ref (h 0) :: rest) := by
  obtain ⟨q, h1, h2⟩ := zbd_some hf
  exact zr_callV y_X_measure_9 ⟨q_730, q_21⟩ 0 rfl rfl (As := [.ref (h 9), .int p2]) (m_X_measure_9 E h1) rfl rfl pc' C hd hp hq hm hr (K _ _ h2)
/-! StepsBeyond.measure(LStepsBeyond$Area;I)V -/
def f_X_measure_10_115 (k79 : Int32 → Int32 → Int32 → Int32 → zS → Option (Int32 × zS)) (x2 : Int32) (x3 : Int32) (x5 : Int32) (x6 : Int32) (σ : zS) : Option (Int32 × zS) :=
  k79 x2 x3 x5 (x6 + 1) σ
set_option maxRecDepth 4000 in
theorem w_X_measure_10_115 {l : Launch} {d : zD} {F : zF} {h : Nat → Nat} {out : Int32 × zS} {ad av : Nat → Nat}  {k79 : Int32 → Int32 → Int32 → Int32 → zS → Option (Int32 × zS)} (C : zOk d F RX10 cX10_measure 7 4 89) (T : zRt d F none none (XW d h out.2)) (E : zXe d ad av) (H79 : ∀ (x2 : Int32) (x3 : Int32) (x5 : Int32) (x6 : Int32) (σ : zS), k79 x2 x3 x5 x6 σ = some out → V l d F 0 0 (XW d h σ) [some (.ref (h 0)), some (.ref (h 10)), some (.int x2), some (.int x3), none, some (.int x5), some (.int x6)] 79 []) (x2 : Int32) (x3 : Int32) (x5 : Int32) (x6 : Int32) (σ : zS) (hf : f_X_measure_10_115 k79 x2 x3 x5 x6 σ = some out) : V l d F 0 0 (XW d h σ) [some (.ref (h 0)), some (.ref (h 10)), some (.int x2), some (.int x3), none, some (.int x5), some (.int x6)] 115 [] := by
  unfold f_X_measure_10_115 at hf
  refine zr_iinc (j := 1) 6 [some (.ref (h 0)), some (.ref (h 10)), some (.int x2), some (.int x3), none, some (.int x5), some (.int (x6 + 1))] 118 C (by decide +kernel) rfl rfl rfl (by decide) rfl rfl ?_
  refine zr_goto (off := -39) 79 C (by decide +kernel) (by decide) ?_
  exact H79 _ _ _ _ _ hf
def f_X_measure_10_79b (k79 : Int32 → Int32 → Int32 → Int32 → zS → Option (Int32 × zS)) (x2 : Int32) (x3 : Int32) (x5 : Int32) (x6 : Int32) (σ : zS) : Option (Int32 × zS) :=
  (if (σ.1 307) ≤ x6 then
  (if x3 = 3 then
  zin x2 12 (zbd (f_Ar_fillUpTo_10 (2 * (σ.2 25 x2.toNatClampNeg)) σ) fun _ σ1 =>
  some (0, σ1))
  else
  some (0, σ))
  else
  zbd (f_X_has x5 x6 σ) fun r3 σ2 =>
  (if r3 = 0 then
  f_X_measure_10_115 k79 x2 x3 x5 x6 σ2
  else
  zin x6 20 (zbd (f_Ar_include_10 (σ2.2 17 x6.toNatClampNeg) σ2) fun _ σ4 =>
  f_X_measure_10_115 k79 x2 x3 x5 x6 σ4)))
set_option maxRecDepth 4000 in
theorem w_X_measure_10_79b {l : Launch} {d : zD} {F : zF} {h : Nat → Nat} {out : Int32 × zS} {ad av : Nat → Nat}  {k79 : Int32 → Int32 → Int32 → Int32 → zS → Option (Int32 × zS)} (C : zOk d F RX10 cX10_measure 7 4 89) (T : zRt d F none none (XW d h out.2)) (E : zXe d ad av) (H79 : ∀ (x2 : Int32) (x3 : Int32) (x5 : Int32) (x6 : Int32) (σ : zS), k79 x2 x3 x5 x6 σ = some out → V l d F 0 0 (XW d h σ) [some (.ref (h 0)), some (.ref (h 10)), some (.int x2), some (.int x3), none, some (.int x5), some (.int x6)] 79 []) (x2 : Int32) (x3 : Int32) (x5 : Int32) (x6 : Int32) (σ : zS) (hf : f_X_measure_10_79b k79 x2 x3 x5 x6 σ = some out) : V l d F 0 0 (XW d h σ) [some (.ref (h 0)), some (.ref (h 10)), some (.int x2), some (.int x3), none, some (.int x5), some (.int x6)] 79 [] := by
  unfold f_X_measure_10_79b at hf
  refine zr_iload 6 81 C (by decide +kernel) rfl rfl ?_
  refine zr_aload_n 0 82 C (by decide +kernel) rfl rfl ?_
  refine xg_0_2 (idx := 26) 85 C (by decide +kernel) rfl q_560 ?_
  refine xg_3_7 (idx := 251) 88 C (by decide +kernel) rfl q_193 ?_
  refine zr_icmp_ge (off := 33) 121 91 C (by decide +kernel) (by decide) rfl hf (fun hf => ?_) (fun hf => ?_)
  · refine zr_iload_n 3 122 C (by decide +kernel) rfl rfl ?_
    refine zr_iconst (v := 3) 3 123 C (by decide +kernel) rfl rfl ?_
    refine zr_icmp_ne (off := 18) 141 126 C (by decide +kernel) (by decide) rfl hf (fun hf => ?_) (fun hf => ?_)
    · obtain rfl := Option.some.inj hf
      exact zr_vret C (by decide +kernel) T
    · refine zr_aload_n 1 127 C (by decide +kernel) rfl rfl ?_
      refine zr_iconst (v := 2) 2 128 C (by decide +kernel) rfl rfl ?_
      refine zr_aload_n 0 129 C (by decide +kernel) rfl rfl ?_
      refine xg_0_4 (idx := 40) 132 C (by decide +kernel) rfl q_562 ?_
      refine xg_5_2 (idx := 192) 135 C (by decide +kernel) rfl q_242 ?_
      refine zr_iload_n 2 136 C (by decide +kernel) rfl rfl ?_
      refine xl_25 137 C (by decide +kernel) rfl hf (fun hf => ?_)
      refine zr_imul 138 C (by decide +kernel) rfl ?_
      refine k_Ar_fillUpTo_10 (idx := 328) 141 C E (by decide +kernel) rfl q_753 (zb2 rfl rfl) (Nat.le_of_ble_eq_true rfl) hf (fun _ σ1 hf => ?_)
      obtain rfl := Option.some.inj hf
      exact zr_vret C (by decide +kernel) T
  · refine zr_iload 5 93 C (by decide +kernel) rfl rfl ?_
    refine zr_iload 6 95 C (by decide +kernel) rfl rfl ?_
    refine k_X_has (idx := 145) 98 C E (by decide +kernel) rfl q_638 (zb2 rfl rfl) (Nat.le_of_ble_eq_true rfl) hf (fun r3 σ2 hf => ?_)
    refine zr_if_eq (off := 17) 115 101 C (by decide +kernel) (by decide) rfl hf (fun hf => ?_) (fun hf => ?_)
    · exact w_X_measure_10_115 C T E H79 _ _ _ _ _ hf
    · refine zr_aload_n 1 102 C (by decide +kernel) rfl rfl ?_
      refine zr_aload_n 0 103 C (by decide +kernel) rfl rfl ?_
      refine xg_0_2 (idx := 26) 106 C (by decide +kernel) rfl q_560 ?_
      refine xg_3_0 (idx := 318) 109 C (by decide +kernel) rfl q_183 ?_
      refine zr_iload 6 111 C (by decide +kernel) rfl rfl ?_
      refine xl_17 112 C (by decide +kernel) rfl hf (fun hf => ?_)
      refine k_Ar_include_10 (idx := 325) 115 C E (by decide +kernel) rfl q_752 (zb2 rfl rfl) (Nat.le_of_ble_eq_true rfl) hf (fun _ σ4 hf => ?_)
      exact w_X_measure_10_115 C T E H79 _ _ _ _ _ hf
def f_X_measure_10_79  : Nat → Int32 → Int32 → Int32 → Int32 → zS → Option (Int32 × zS)
  | 0, _, _, _, _, _ => none
  | n + 1, x2, x3, x5, x6,  σ => f_X_measure_10_79b (fun x2 x3 x5 x6 σ => f_X_measure_10_79  n x2 x3 x5 x6 σ) x2 x3 x5 x6 σ
theorem w_X_measure_10_79 {l : Launch} {d : zD} {F : zF} {h : Nat → Nat} {out : Int32 × zS} {ad av : Nat → Nat}   (C : zOk d F RX10 cX10_measure 7 4 89) (T : zRt d F none none (XW d h out.2)) (E : zXe d ad av)  : ∀ (n : Nat) (x2 : Int32) (x3 : Int32) (x5 : Int32) (x6 : Int32) (σ : zS), f_X_measure_10_79  n x2 x3 x5 x6 σ = some out → V l d F 0 0 (XW d h σ) [some (.ref (h 0)), some (.ref (h 10)), some (.int x2), some (.int x3), none, some (.int x5), some (.int x6)] 79 [] := by
  intro n
  induction n with
  | zero =>
    intro x2 x3 x5 x6 σ hf
    cases hf
  | succ n ih =>
    intro x2 x3 x5 x6 σ hf
    exact w_X_measure_10_79b C T E ih x2 x3 x5 x6 σ hf
def f_X_measure_10_74  (x2 : Int32) (x3 : Int32) (y0 : Int32) (σ : zS) : Option (Int32 × zS) :=
  f_X_measure_10_79 zfu x2 x3 y0 0 σ
set_option maxRecDepth 4000 in
theorem w_X_measure_10_74 {l : Launch} {d : zD} {F : zF} {h : Nat → Nat} {out : Int32 × zS} {ad av : Nat → Nat}   (C : zOk d F RX10 cX10_measure 7 4 89) (T : zRt d F none none (XW d h out.2)) (E : zXe d ad av)  (x2 : Int32) (x3 : Int32) (y0 : Int32) (σ : zS) (hf : f_X_measure_10_74  x2 x3 y0 σ = some out) : V l d F 0 0 (XW d h σ) [some (.ref (h 0)), some (.ref (h 10)), some (.int x2), some (.int x3), none, none, none] 74 [.int y0] := by
  unfold f_X_measure_10_74 at hf
  refine zr_istore 5 [some (.ref (h 0)), some (.ref (h 10)), some (.int x2), some (.int x3), none, some (.int y0), none] 76 C (by decide +kernel) rfl (by decide) rfl rfl ?_
  refine zr_iconst (v := 0) 0 77 C (by decide +kernel) rfl rfl ?_
  refine zr_istore 6 [some (.ref (h 0)), some (.ref (h 10)), some (.int x2), some (.int x3), none, some (.int y0), some (.int 0)] 79 C (by decide +kernel) rfl (by decide) rfl rfl ?_
  exact w_X_measure_10_79 C T E zfu _ _ _ _ _ hf
def f_X_measure_10 (p2 : Int32) (σ : zS) : Option (Int32 × zS) :=
  zin p2 12 (zlt (σ.2 23 p2.toNatClampNeg) fun v1 => 
  zin p2 12 (zlt (σ.2 24 p2.toNatClampNeg) fun v2 => 
  (if v1 = 5 then
  zbd (f_X_reachOf p2 σ) fun r11 σ10 =>
  zbd (f_Ar_measureLoaf_10 (σ.1 15) r11 σ10) fun _ σ12 =>
  some (0, σ12)
  else
  zbd (f_X_isOfKind v1 2 σ) fun r4 σ3 =>
  zbd (f_X_reachOf p2 σ3) fun r6 σ5 =>
  zbd (f_Ar_clear_10 r4 r6 σ5) fun _ σ7 =>
  (if v1 = 0 then
  f_X_measure_10_74 p2 v1 (zshl 1 v2) σ7
  else
  zbd (f_Vi_townOf v2 σ7) fun r9 σ8 =>
  f_X_measure_10_74 p2 v1 r9 σ8))))
set_option maxRecDepth 4000 in
theorem m_X_measure_10 {l : Launch} {d : zD} {h : Nat → Nat} {out : Int32 × zS} {σ : zS} {ad av : Nat → Nat} {p2 : Int32} (E : zXe d ad av) (hf : f_X_measure_10 p2 σ = some out) : zM l yX10_measure cX10_measure 7 none 4 89 d [.ref (h 0), .ref (h 10), .int p2] (XW d h σ) (XW d h out.2) none := by
  refine zM_of [some (.ref (h 0)), some (.ref (h 10)), some (.int p2), none, none, none, none] (by decide +kernel) rfl (Nat.le_of_ble_eq_true rfl) (fun F C T => ?_)
  unfold f_X_measure_10 at hf
  refine zr_aload_n 0 1 C (by decide +kernel) rfl rfl ?_
  refine xg_0_4 (idx := 40) 4 C (by decide +kernel) rfl q_562 ?_
  refine xg_5_0 (idx := 186) 7 C (by decide +kernel) rfl q_238 ?_
  refine zr_iload_n 2 8 C (by decide +kernel) rfl rfl ?_
  refine xl_23 9 C (by decide +kernel) rfl hf (fun hf => ?_)
  refine zr_name hf (fun v1 hf => ?_)
  refine zr_istore_n 3 [some (.ref (h 0)), some (.ref (h 10)), some (.int p2), some (.int v1), none, none, none] 10 C (by decide +kernel) rfl (by decide) rfl rfl ?_
  refine zr_aload_n 0 11 C (by decide +kernel) rfl rfl ?_
  refine xg_0_4 (idx := 40) 14 C (by decide +kernel) rfl q_562 ?_
  refine xg_5_1 (idx := 189) 17 C (by decide +kernel) rfl q_240 ?_
  refine zr_iload_n 2 18 C (by decide +kernel) rfl rfl ?_
  refine xl_24 19 C (by decide +kernel) rfl hf (fun hf => ?_)
  refine zr_name hf (fun v2 hf => ?_)
  refine zr_istore 4 [some (.ref (h 0)), some (.ref (h 10)), some (.int p2), some (.int v1), some (.int v2), none, none] 21 C (by decide +kernel) rfl (by decide) rfl rfl ?_
  refine zr_iload_n 3 22 C (by decide +kernel) rfl rfl ?_
  refine zr_iconst (v := 5) 5 23 C (by decide +kernel) rfl rfl ?_
  refine zr_icmp_ne (off := 17) 40 26 C (by decide +kernel) (by decide) rfl hf (fun hf => ?_) (fun hf => ?_)
  · refine zr_aload_n 1 41 C (by decide +kernel) rfl rfl ?_
    refine zr_iload_n 3 42 C (by decide +kernel) rfl rfl ?_
    refine zr_iconst (v := 2) 2 43 C (by decide +kernel) rfl rfl ?_
    refine k_X_isOfKind (idx := 319) 46 C E (by decide +kernel) rfl q_746 (zb2 rfl rfl) (Nat.le_of_ble_eq_true rfl) hf (fun r4 σ3 hf => ?_)
    refine zr_aload_n 0 47 C (by decide +kernel) rfl rfl ?_
    refine zr_iload_n 2 48 C (by decide +kernel) rfl rfl ?_
    refine k_X_reachOf (idx := 195) 51 C E (by decide +kernel) rfl q_715 (zb2 rfl rfl) (Nat.le_of_ble_eq_true rfl) hf (fun r6 σ5 hf => ?_)
    refine k_Ar_clear_10 (idx := 322) 54 C E (by decide +kernel) rfl q_751 (zb2 rfl rfl) (Nat.le_of_ble_eq_true rfl) hf (fun _ σ7 hf => ?_)
    refine zr_iload_n 3 55 C (by decide +kernel) rfl rfl ?_
    refine zr_if_ne (off := 10) 65 58 C (by decide +kernel) (by decide) rfl hf (fun hf => ?_) (fun hf => ?_)
    · refine zr_aload_n 0 66 C (by decide +kernel) rfl rfl ?_
      refine xg_0_2 (idx := 26) 69 C (by decide +kernel) rfl q_560 ?_
      refine zr_iload 4 71 C (by decide +kernel) rfl rfl ?_
      refine k_Vi_townOf (idx := 153) 74 C E (by decide +kernel) rfl q_657 (zb2 rfl rfl) (Nat.le_of_ble_eq_true rfl) hf (fun r9 σ8 hf => ?_)
      refine zr_less (zA (zA (zA (zA (zN (zN (zN zE))))))) ?_
      exact w_X_measure_10_74 C T E _ _ _ _ hf
    · refine zr_iconst (v := 1) 1 59 C (by decide +kernel) rfl rfl ?_
      refine zr_iload 4 61 C (by decide +kernel) rfl rfl ?_
      refine zr_ishl 62 C (by decide +kernel) rfl ?_
      refine zr_goto (off := 12) 74 C (by decide +kernel) (by decide) ?_
      refine zr_less (zA (zA (zA (zA (zN (zN (zN zE))))))) ?_
      exact w_X_measure_10_74 C T E _ _ _ _ hf
  · refine zr_aload_n 1 27 C (by decide +kernel) rfl rfl ?_
    refine zr_aload_n 0 28 C (by decide +kernel) rfl rfl ?_
    refine xg_0_15 (idx := 182) 31 C (by decide +kernel) rfl q_573 ?_
    refine zr_aload_n 0 32 C (by decide +kernel) rfl rfl ?_
    refine zr_iload_n 2 33 C (by decide +kernel) rfl rfl ?_
    refine k_X_reachOf (idx := 195) 36 C E (by decide +kernel) rfl q_715 (zb2 rfl rfl) (Nat.le_of_ble_eq_true rfl) hf (fun r11 σ10 hf => ?_)
    refine k_Ar_measureLoaf_10 (idx := 208) 39 C E (by decide +kernel) rfl q_732 (zb2 rfl rfl) (Nat.le_of_ble_eq_true rfl) hf (fun _ σ12 hf => ?_)
    obtain rfl := Option.some.inj hf
    exact zr_vret C (by decide +kernel) T
theorem y_X_measure_10 : zY yX10_measure cX10_measure 7 none 2 := ⟨q_731, q_72, by decide +kernel, by decide +kernel, by decide +kernel⟩
theorem k_X_measure_10 {l : Launch} {d : zD} {F : zF} {h : Nat → Nat} {σ : zS} {lv : List (Option Value)} {pc : Nat} {own : String} {cc : ByteArray} {nL fr lo idx : Nat} {rest : List Value} {β : Type} {kf : Int32 → zS → Option β} {o2 : β} {ad av : Nat → Nat}  {p2 : Int32} (pc' : Nat) (C : zOk d F own cc nL fr lo) (E : zXe d ad av) (hd : decode cc pc = .ok (.invokevirtual idx, 3)) (hp : pc + 3 = pc') (hq : Cond.methodLink own idx yX10_measure ∈ zW) (hm : 4 + 1 ≤ fr ∧ 8 + (7 + 11) + 89 ≤ lo) (hr : (rest.map fun v => v.category).sum ≤ 8) (hf : zbd (f_X_measure_10 p2 σ) kf = some o2) (K : ∀ (r : Int32) (σ' : zS), kf r σ' = some o2 → V l d F 0 0 (XW d h σ') lv pc' (rest)) : V l d F 0 0 (XW d h σ) lv pc (.int p2 :: .ref (h 10) :: .ref (h 0) :: rest) := by
  obtain ⟨q, h1, h2⟩ := zbd_some hf
  exact zr_callV y_X_measure_10 ⟨q_730, q_21⟩ 0 rfl rfl (As := [.ref (h 10), .int p2]) (m_X_measure_10 E h1) rfl rfl pc' C hd hp hq hm hr (K _ _ h2)
/-! StepsBeyond.within(II)I -/
def f_X_within (p1 : Int32) (p2 : Int32) (σ : zS) : Option (Int32 × zS) :=
  zbd (f_Sh_knows p1 σ) fun r2 σ1 =>
  (if r2 = 0 then
  some (-1, σ1)
  else
  zbd (f_X_isPlace p2 σ1) fun r4 σ3 =>
  (if r4 = 0 then
  some (-2, σ3)
  else
  zbd (f_X_measure_9 p1 σ3) fun _ σ5 =>
  zbd (f_Ar_holds_9 p2 σ5) fun r7 σ6 =>
  (if r7 = 0 then
  some (0, σ6)
  else
  some (1, σ6))))
set_option maxRecDepth 4000 in
theorem m_X_within {l : Launch} {d : zD} {h : Nat → Nat} {out : Int32 × zS} {σ : zS} {ad av : Nat → Nat} {p1 : Int32} {p2 : Int32} (E : zXe d ad av) (hf : f_X_within p1 p2 σ = some out) : zM l yX10_within cX10_within 3 (some .int) 5 115 d [.ref (h 0), .int p1, .int p2] (XW d h σ) (XW d h out.2) (some (.int out.1)) := by
  refine zM_of [some (.ref (h 0)), some (.int p1), some (.int p2)] (by decide +kernel) rfl (Nat.le_of_ble_eq_true rfl) (fun F C T => ?_)
  unfold f_X_within at hf
  refine zr_aload_n 0 1 C (by decide +kernel) rfl rfl ?_
  refine xg_0_4 (idx := 40) 4 C (by decide +kernel) rfl q_562 ?_
  refine zr_iload_n 1 5 C (by decide +kernel) rfl rfl ?_
  refine k_Sh_knows (idx := 185) 8 C E (by decide +kernel) rfl q_711 (zb2 rfl rfl) (Nat.le_of_ble_eq_true rfl) hf (fun r2 σ1 hf => ?_)
  refine zr_if_ne (off := 5) 13 11 C (by decide +kernel) (by decide) rfl hf (fun hf => ?_) (fun hf => ?_)
  · refine zr_iload_n 2 14 C (by decide +kernel) rfl rfl ?_
    refine k_X_isPlace (idx := 123) 17 C E (by decide +kernel) rfl q_612 (zb2 rfl rfl) (Nat.le_of_ble_eq_true rfl) hf (fun r4 σ3 hf => ?_)
    refine zr_if_ne (off := 6) 23 20 C (by decide +kernel) (by decide) rfl hf (fun hf => ?_) (fun hf => ?_)
    · refine zr_aload_n 0 24 C (by decide +kernel) rfl rfl ?_
      refine zr_aload_n 0 25 C (by decide +kernel) rfl rfl ?_
      refine xg_0_8 (idx := 68) 28 C (by decide +kernel) rfl q_566 ?_
      refine zr_iload_n 1 29 C (by decide +kernel) rfl rfl ?_
      refine k_X_measure_9 (idx := 201) 32 C E (by decide +kernel) rfl q_728 (zb2 rfl rfl) (Nat.le_of_ble_eq_true rfl) hf (fun _ σ5 hf => ?_)
      refine zr_aload_n 0 33 C (by decide +kernel) rfl rfl ?_
      refine xg_0_8 (idx := 68) 36 C (by decide +kernel) rfl q_566 ?_
      refine zr_iload_n 2 37 C (by decide +kernel) rfl rfl ?_
      refine k_Ar_holds_9 (idx := 205) 40 C E (by decide +kernel) rfl q_757 (zb2 rfl rfl) (Nat.le_of_ble_eq_true rfl) hf (fun r7 σ6 hf => ?_)
      refine zr_if_eq (off := 7) 47 43 C (by decide +kernel) (by decide) rfl hf (fun hf => ?_) (fun hf => ?_)
      · refine zr_iconst (v := 0) 0 48 C (by decide +kernel) rfl rfl ?_
        obtain rfl := Option.some.inj hf
        exact zr_iret C (by decide +kernel) T
      · refine zr_iconst (v := 1) 1 44 C (by decide +kernel) rfl rfl ?_
        refine zr_goto (off := 4) 48 C (by decide +kernel) (by decide) ?_
        obtain rfl := Option.some.inj hf
        exact zr_iret C (by decide +kernel) T
    · refine zr_bipush (v := (-2)) (-2) 22 C (by decide +kernel) rfl rfl ?_
      obtain rfl := Option.some.inj hf
      exact zr_iret C (by decide +kernel) T
  · refine zr_iconst (v := (-1)) (-1) 12 C (by decide +kernel) rfl rfl ?_
    obtain rfl := Option.some.inj hf
    exact zr_iret C (by decide +kernel) T
theorem y_X_within : zY yX10_within cX10_within 3 (some .int) 2 := ⟨q_727, q_72, by decide +kernel, by decide +kernel, by decide +kernel⟩
theorem k_X_within {l : Launch} {d : zD} {F : zF} {h : Nat → Nat} {σ : zS} {lv : List (Option Value)} {pc : Nat} {own : String} {cc : ByteArray} {nL fr lo idx : Nat} {rest : List Value} {β : Type} {kf : Int32 → zS → Option β} {o2 : β} {ad av : Nat → Nat}  {p1 : Int32} {p2 : Int32} (pc' : Nat) (C : zOk d F own cc nL fr lo) (E : zXe d ad av) (hd : decode cc pc = .ok (.invokevirtual idx, 3)) (hp : pc + 3 = pc') (hq : Cond.methodLink own idx yX10_within ∈ zW) (hm : 5 + 1 ≤ fr ∧ 8 + (3 + 11) + 115 ≤ lo) (hr : (rest.map fun v => v.category).sum ≤ 8) (hf : zbd (f_X_within p1 p2 σ) kf = some o2) (K : ∀ (r : Int32) (σ' : zS), kf r σ' = some o2 → V l d F 0 0 (XW d h σ') lv pc' (.int r :: rest)) : V l d F 0 0 (XW d h σ) lv pc (.int p2 :: .int p1 :: .ref (h 0) :: rest) := by
  obtain ⟨q, h1, h2⟩ := zbd_some hf
  exact zr_callV y_X_within ⟨q_725, q_726⟩ 0 rfl rfl (As := [.int p1, .int p2]) (m_X_within E h1) rfl rfl pc' C hd hp hq hm hr (K _ _ h2)
/-! StepsBeyond.size(I)I -/
def f_X_size_47 (k26 : Int32 → Int32 → zS → Option (Int32 × zS)) (x2 : Int32) (x3 : Int32) (σ : zS) : Option (Int32 × zS) :=
  k26 x2 (x3 + 1) σ
set_option maxRecDepth 4000 in
theorem w_X_size_47 {l : Launch} {d : zD} {F : zF} {h : Nat → Nat} {out : Int32 × zS} {ad av : Nat → Nat}  {k26 : Int32 → Int32 → zS → Option (Int32 × zS)} (C : zOk d F RX10 cX10_size 4 5 115) (T : zRt d F (some .int) (some (.int out.1)) (XW d h out.2)) (E : zXe d ad av) (H26 : ∀ (x2 : Int32) (x3 : Int32) (σ : zS), k26 x2 x3 σ = some out → V l d F 0 0 (XW d h σ) [some (.ref (h 0)), none, some (.int x2), some (.int x3)] 26 []) (x2 : Int32) (x3 : Int32) (σ : zS) (hf : f_X_size_47 k26 x2 x3 σ = some out) : V l d F 0 0 (XW d h σ) [some (.ref (h 0)), none, some (.int x2), some (.int x3)] 47 [] := by
  unfold f_X_size_47 at hf
  refine zr_iinc (j := 1) 3 [some (.ref (h 0)), none, some (.int x2), some (.int (x3 + 1))] 50 C (by decide +kernel) rfl rfl rfl (by decide) rfl rfl ?_
  refine zr_goto (off := -24) 26 C (by decide +kernel) (by decide) ?_
  exact H26 _ _ _ hf
def f_X_size_26b (k26 : Int32 → Int32 → zS → Option (Int32 × zS)) (x2 : Int32) (x3 : Int32) (σ : zS) : Option (Int32 × zS) :=
  (if 1600 ≤ x3 then
  some (x2, σ)
  else
  zbd (f_Ar_holds_9 x3 σ) fun r2 σ1 =>
  (if r2 = 0 then
  f_X_size_47 k26 x2 x3 σ1
  else
  f_X_size_47 k26 (x2 + 1) x3 σ1))
set_option maxRecDepth 4000 in
theorem w_X_size_26b {l : Launch} {d : zD} {F : zF} {h : Nat → Nat} {out : Int32 × zS} {ad av : Nat → Nat}  {k26 : Int32 → Int32 → zS → Option (Int32 × zS)} (C : zOk d F RX10 cX10_size 4 5 115) (T : zRt d F (some .int) (some (.int out.1)) (XW d h out.2)) (E : zXe d ad av) (H26 : ∀ (x2 : Int32) (x3 : Int32) (σ : zS), k26 x2 x3 σ = some out → V l d F 0 0 (XW d h σ) [some (.ref (h 0)), none, some (.int x2), some (.int x3)] 26 []) (x2 : Int32) (x3 : Int32) (σ : zS) (hf : f_X_size_26b k26 x2 x3 σ = some out) : V l d F 0 0 (XW d h σ) [some (.ref (h 0)), none, some (.int x2), some (.int x3)] 26 [] := by
  unfold f_X_size_26b at hf
  refine zr_iload_n 3 27 C (by decide +kernel) rfl rfl ?_
  refine zr_sipush (v := 1600) 1600 30 C (by decide +kernel) rfl rfl ?_
  refine zr_icmp_ge (off := 23) 53 33 C (by decide +kernel) (by decide) rfl hf (fun hf => ?_) (fun hf => ?_)
  · refine zr_iload_n 2 54 C (by decide +kernel) rfl rfl ?_
    obtain rfl := Option.some.inj hf
    exact zr_iret C (by decide +kernel) T
  · refine zr_aload_n 0 34 C (by decide +kernel) rfl rfl ?_
    refine xg_0_8 (idx := 68) 37 C (by decide +kernel) rfl q_566 ?_
    refine zr_iload_n 3 38 C (by decide +kernel) rfl rfl ?_
    refine k_Ar_holds_9 (idx := 205) 41 C E (by decide +kernel) rfl q_757 (zb2 rfl rfl) (Nat.le_of_ble_eq_true rfl) hf (fun r2 σ1 hf => ?_)
    refine zr_if_eq (off := 6) 47 44 C (by decide +kernel) (by decide) rfl hf (fun hf => ?_) (fun hf => ?_)
    · exact w_X_size_47 C T E H26 _ _ _ hf
    · refine zr_iinc (j := 1) 2 [some (.ref (h 0)), none, some (.int (x2 + 1)), some (.int x3)] 47 C (by decide +kernel) rfl rfl rfl (by decide) rfl rfl ?_
      exact w_X_size_47 C T E H26 _ _ _ hf
def f_X_size_26  : Nat → Int32 → Int32 → zS → Option (Int32 × zS)
  | 0, _, _, _ => none
  | n + 1, x2, x3,  σ => f_X_size_26b (fun x2 x3 σ => f_X_size_26  n x2 x3 σ) x2 x3 σ
theorem w_X_size_26 {l : Launch} {d : zD} {F : zF} {h : Nat → Nat} {out : Int32 × zS} {ad av : Nat → Nat}   (C : zOk d F RX10 cX10_size 4 5 115) (T : zRt d F (some .int) (some (.int out.1)) (XW d h out.2)) (E : zXe d ad av)  : ∀ (n : Nat) (x2 : Int32) (x3 : Int32) (σ : zS), f_X_size_26  n x2 x3 σ = some out → V l d F 0 0 (XW d h σ) [some (.ref (h 0)), none, some (.int x2), some (.int x3)] 26 [] := by
  intro n
  induction n with
  | zero =>
    intro x2 x3 σ hf
    cases hf
  | succ n ih =>
    intro x2 x3 σ hf
    exact w_X_size_26b C T E ih x2 x3 σ hf
def f_X_size (p1 : Int32) (σ : zS) : Option (Int32 × zS) :=
  zbd (f_Sh_knows p1 σ) fun r2 σ1 =>
  (if r2 = 0 then
  some (-1, σ1)
  else
  zbd (f_X_measure_9 p1 σ1) fun _ σ3 =>
  f_X_size_26 zfu 0 0 σ3)
set_option maxRecDepth 4000 in
theorem m_X_size {l : Launch} {d : zD} {h : Nat → Nat} {out : Int32 × zS} {σ : zS} {ad av : Nat → Nat} {p1 : Int32} (E : zXe d ad av) (hf : f_X_size p1 σ = some out) : zM l yX10_size cX10_size 4 (some .int) 5 115 d [.ref (h 0), .int p1] (XW d h σ) (XW d h out.2) (some (.int out.1)) := by
  refine zM_of [some (.ref (h 0)), some (.int p1), none, none] (by decide +kernel) rfl (Nat.le_of_ble_eq_true rfl) (fun F C T => ?_)
  unfold f_X_size at hf
  refine zr_aload_n 0 1 C (by decide +kernel) rfl rfl ?_
  refine xg_0_4 (idx := 40) 4 C (by decide +kernel) rfl q_562 ?_
  refine zr_iload_n 1 5 C (by decide +kernel) rfl rfl ?_
  refine k_Sh_knows (idx := 185) 8 C E (by decide +kernel) rfl q_711 (zb2 rfl rfl) (Nat.le_of_ble_eq_true rfl) hf (fun r2 σ1 hf => ?_)
  refine zr_if_ne (off := 5) 13 11 C (by decide +kernel) (by decide) rfl hf (fun hf => ?_) (fun hf => ?_)
  · refine zr_aload_n 0 14 C (by decide +kernel) rfl rfl ?_
    refine zr_aload_n 0 15 C (by decide +kernel) rfl rfl ?_
    refine xg_0_8 (idx := 68) 18 C (by decide +kernel) rfl q_566 ?_
    refine zr_iload_n 1 19 C (by decide +kernel) rfl rfl ?_
    refine k_X_measure_9 (idx := 201) 22 C E (by decide +kernel) rfl q_728 (zb2 rfl rfl) (Nat.le_of_ble_eq_true rfl) hf (fun _ σ3 hf => ?_)
    refine zr_iconst (v := 0) 0 23 C (by decide +kernel) rfl rfl ?_
    refine zr_istore_n 2 [some (.ref (h 0)), some (.int p1), some (.int 0), none] 24 C (by decide +kernel) rfl (by decide) rfl rfl ?_
    refine zr_iconst (v := 0) 0 25 C (by decide +kernel) rfl rfl ?_
    refine zr_istore_n 3 [some (.ref (h 0)), some (.int p1), some (.int 0), some (.int 0)] 26 C (by decide +kernel) rfl (by decide) rfl rfl ?_
    refine zr_less (zA (zN (zA (zA zE)))) ?_
    exact w_X_size_26 C T E zfu _ _ _ hf
  · refine zr_iconst (v := (-1)) (-1) 12 C (by decide +kernel) rfl rfl ?_
    obtain rfl := Option.some.inj hf
    exact zr_iret C (by decide +kernel) T
theorem y_X_size : zY yX10_size cX10_size 4 (some .int) 1 := ⟨q_777, q_72, by decide +kernel, by decide +kernel, by decide +kernel⟩
theorem k_X_size {l : Launch} {d : zD} {F : zF} {h : Nat → Nat} {σ : zS} {lv : List (Option Value)} {pc : Nat} {own : String} {cc : ByteArray} {nL fr lo idx : Nat} {rest : List Value} {β : Type} {kf : Int32 → zS → Option β} {o2 : β} {ad av : Nat → Nat}  {p1 : Int32} (pc' : Nat) (C : zOk d F own cc nL fr lo) (E : zXe d ad av) (hd : decode cc pc = .ok (.invokevirtual idx, 3)) (hp : pc + 3 = pc') (hq : Cond.methodLink own idx yX10_size ∈ zW) (hm : 5 + 1 ≤ fr ∧ 8 + (4 + 11) + 115 ≤ lo) (hr : (rest.map fun v => v.category).sum ≤ 8) (hf : zbd (f_X_size p1 σ) kf = some o2) (K : ∀ (r : Int32) (σ' : zS), kf r σ' = some o2 → V l d F 0 0 (XW d h σ') lv pc' (.int r :: rest)) : V l d F 0 0 (XW d h σ) lv pc (.int p1 :: .ref (h 0) :: rest) := by
  obtain ⟨q, h1, h2⟩ := zbd_some hf
  exact zr_callV y_X_size ⟨q_775, q_776⟩ 0 rfl rfl (As := [.int p1]) (m_X_size E h1) rfl rfl pc' C hd hp hq hm hr (K _ _ h2)
/-! StepsBeyond.both(III)I -/
def f_X_both_123 (k84 : Int32 → Int32 → Int32 → Int32 → zS → Option (Int32 × zS)) (x4 : Int32) (x5 : Int32) (x6 : Int32) (x7 : Int32) (σ : zS) : Option (Int32 × zS) :=
  k84 x4 x5 x6 (x7 + 1) σ
set_option maxRecDepth 4000 in
theorem w_X_both_123 {l : Launch} {d : zD} {F : zF} {h : Nat → Nat} {out : Int32 × zS} {ad av : Nat → Nat}  {k84 : Int32 → Int32 → Int32 → Int32 → zS → Option (Int32 × zS)} (C : zOk d F RX10 cX10_both 8 5 115) (T : zRt d F (some .int) (some (.int out.1)) (XW d h out.2)) (E : zXe d ad av) (H84 : ∀ (x4 : Int32) (x5 : Int32) (x6 : Int32) (x7 : Int32) (σ : zS), k84 x4 x5 x6 x7 σ = some out → V l d F 0 0 (XW d h σ) [some (.ref (h 0)), none, none, none, some (.int x4), some (.int x5), some (.int x6), some (.int x7)] 84 []) (x4 : Int32) (x5 : Int32) (x6 : Int32) (x7 : Int32) (σ : zS) (hf : f_X_both_123 k84 x4 x5 x6 x7 σ = some out) : V l d F 0 0 (XW d h σ) [some (.ref (h 0)), none, none, none, some (.int x4), some (.int x5), some (.int x6), some (.int x7)] 123 [] := by
  unfold f_X_both_123 at hf
  refine zr_iinc (j := 1) 7 [some (.ref (h 0)), none, none, none, some (.int x4), some (.int x5), some (.int x6), some (.int (x7 + 1))] 126 C (by decide +kernel) rfl rfl rfl (by decide) rfl rfl ?_
  refine zr_goto (off := -42) 84 C (by decide +kernel) (by decide) ?_
  exact H84 _ _ _ _ _ hf
def f_X_both_84b (k84 : Int32 → Int32 → Int32 → Int32 → zS → Option (Int32 × zS)) (x4 : Int32) (x5 : Int32) (x6 : Int32) (x7 : Int32) (σ : zS) : Option (Int32 × zS) :=
  (if 1600 ≤ x7 then
  some (x6, σ)
  else
  zbd (f_Ar_holds_9 x7 σ) fun r2 σ1 =>
  (if r2 = x4 then
  zbd (f_Ar_holds_10 x7 σ1) fun r4 σ3 =>
  (if r4 = x5 then
  f_X_both_123 k84 x4 x5 (x6 + 1) x7 σ3
  else
  f_X_both_123 k84 x4 x5 x6 x7 σ3)
  else
  f_X_both_123 k84 x4 x5 x6 x7 σ1))
set_option maxRecDepth 4000 in
theorem w_X_both_84b {l : Launch} {d : zD} {F : zF} {h : Nat → Nat} {out : Int32 × zS} {ad av : Nat → Nat}  {k84 : Int32 → Int32 → Int32 → Int32 → zS → Option (Int32 × zS)} (C : zOk d F RX10 cX10_both 8 5 115) (T : zRt d F (some .int) (some (.int out.1)) (XW d h out.2)) (E : zXe d ad av) (H84 : ∀ (x4 : Int32) (x5 : Int32) (x6 : Int32) (x7 : Int32) (σ : zS), k84 x4 x5 x6 x7 σ = some out → V l d F 0 0 (XW d h σ) [some (.ref (h 0)), none, none, none, some (.int x4), some (.int x5), some (.int x6), some (.int x7)] 84 []) (x4 : Int32) (x5 : Int32) (x6 : Int32) (x7 : Int32) (σ : zS) (hf : f_X_both_84b k84 x4 x5 x6 x7 σ = some out) : V l d F 0 0 (XW d h σ) [some (.ref (h 0)), none, none, none, some (.int x4), some (.int x5), some (.int x6), some (.int x7)] 84 [] := by
  unfold f_X_both_84b at hf
  refine zr_iload 7 86 C (by decide +kernel) rfl rfl ?_
  refine zr_sipush (v := 1600) 1600 89 C (by decide +kernel) rfl rfl ?_
  refine zr_icmp_ge (off := 40) 129 92 C (by decide +kernel) (by decide) rfl hf (fun hf => ?_) (fun hf => ?_)
  · refine zr_iload 6 131 C (by decide +kernel) rfl rfl ?_
    obtain rfl := Option.some.inj hf
    exact zr_iret C (by decide +kernel) T
  · refine zr_aload_n 0 93 C (by decide +kernel) rfl rfl ?_
    refine xg_0_8 (idx := 68) 96 C (by decide +kernel) rfl q_566 ?_
    refine zr_iload 7 98 C (by decide +kernel) rfl rfl ?_
    refine k_Ar_holds_9 (idx := 205) 101 C E (by decide +kernel) rfl q_757 (zb2 rfl rfl) (Nat.le_of_ble_eq_true rfl) hf (fun r2 σ1 hf => ?_)
    refine zr_iload 4 103 C (by decide +kernel) rfl rfl ?_
    refine zr_icmp_ne (off := 20) 123 106 C (by decide +kernel) (by decide) rfl hf (fun hf => ?_) (fun hf => ?_)
    · exact w_X_both_123 C T E H84 _ _ _ _ _ hf
    · refine zr_aload_n 0 107 C (by decide +kernel) rfl rfl ?_
      refine xg_0_9 (idx := 72) 110 C (by decide +kernel) rfl q_567 ?_
      refine zr_iload 7 112 C (by decide +kernel) rfl rfl ?_
      refine k_Ar_holds_10 (idx := 205) 115 C E (by decide +kernel) rfl q_757 (zb2 rfl rfl) (Nat.le_of_ble_eq_true rfl) hf (fun r4 σ3 hf => ?_)
      refine zr_iload 5 117 C (by decide +kernel) rfl rfl ?_
      refine zr_icmp_ne (off := 6) 123 120 C (by decide +kernel) (by decide) rfl hf (fun hf => ?_) (fun hf => ?_)
      · exact w_X_both_123 C T E H84 _ _ _ _ _ hf
      · refine zr_iinc (j := 1) 6 [some (.ref (h 0)), none, none, none, some (.int x4), some (.int x5), some (.int (x6 + 1)), some (.int x7)] 123 C (by decide +kernel) rfl rfl rfl (by decide) rfl rfl ?_
        exact w_X_both_123 C T E H84 _ _ _ _ _ hf
def f_X_both_84  : Nat → Int32 → Int32 → Int32 → Int32 → zS → Option (Int32 × zS)
  | 0, _, _, _, _, _ => none
  | n + 1, x4, x5, x6, x7,  σ => f_X_both_84b (fun x4 x5 x6 x7 σ => f_X_both_84  n x4 x5 x6 x7 σ) x4 x5 x6 x7 σ
theorem w_X_both_84 {l : Launch} {d : zD} {F : zF} {h : Nat → Nat} {out : Int32 × zS} {ad av : Nat → Nat}   (C : zOk d F RX10 cX10_both 8 5 115) (T : zRt d F (some .int) (some (.int out.1)) (XW d h out.2)) (E : zXe d ad av)  : ∀ (n : Nat) (x4 : Int32) (x5 : Int32) (x6 : Int32) (x7 : Int32) (σ : zS), f_X_both_84  n x4 x5 x6 x7 σ = some out → V l d F 0 0 (XW d h σ) [some (.ref (h 0)), none, none, none, some (.int x4), some (.int x5), some (.int x6), some (.int x7)] 84 [] := by
  intro n
  induction n with
  | zero =>
    intro x4 x5 x6 x7 σ hf
    cases hf
  | succ n ih =>
    intro x4 x5 x6 x7 σ hf
    exact w_X_both_84b C T E ih x4 x5 x6 x7 σ hf
def f_X_both_76  (x4 : Int32) (y0 : Int32) (σ : zS) : Option (Int32 × zS) :=
  f_X_both_84 zfu x4 y0 0 0 σ
set_option maxRecDepth 4000 in
theorem w_X_both_76 {l : Launch} {d : zD} {F : zF} {h : Nat → Nat} {out : Int32 × zS} {ad av : Nat → Nat}   (C : zOk d F RX10 cX10_both 8 5 115) (T : zRt d F (some .int) (some (.int out.1)) (XW d h out.2)) (E : zXe d ad av)  (x4 : Int32) (y0 : Int32) (σ : zS) (hf : f_X_both_76  x4 y0 σ = some out) : V l d F 0 0 (XW d h σ) [some (.ref (h 0)), none, none, none, some (.int x4), none, none, none] 76 [.int y0] := by
  unfold f_X_both_76 at hf
  refine zr_istore 5 [some (.ref (h 0)), none, none, none, some (.int x4), some (.int y0), none, none] 78 C (by decide +kernel) rfl (by decide) rfl rfl ?_
  refine zr_iconst (v := 0) 0 79 C (by decide +kernel) rfl rfl ?_
  refine zr_istore 6 [some (.ref (h 0)), none, none, none, some (.int x4), some (.int y0), some (.int 0), none] 81 C (by decide +kernel) rfl (by decide) rfl rfl ?_
  refine zr_iconst (v := 0) 0 82 C (by decide +kernel) rfl rfl ?_
  refine zr_istore 7 [some (.ref (h 0)), none, none, none, some (.int x4), some (.int y0), some (.int 0), some (.int 0)] 84 C (by decide +kernel) rfl (by decide) rfl rfl ?_
  exact w_X_both_84 C T E zfu _ _ _ _ _ hf
def f_X_both_64  (x3 : Int32) (y0 : Int32) (σ : zS) : Option (Int32 × zS) :=
  (if x3 = 1 then
  f_X_both_76 y0 0 σ
  else
  f_X_both_76 y0 1 σ)
set_option maxRecDepth 4000 in
theorem w_X_both_64 {l : Launch} {d : zD} {F : zF} {h : Nat → Nat} {out : Int32 × zS} {ad av : Nat → Nat}   (C : zOk d F RX10 cX10_both 8 5 115) (T : zRt d F (some .int) (some (.int out.1)) (XW d h out.2)) (E : zXe d ad av)  (x3 : Int32) (y0 : Int32) (σ : zS) (hf : f_X_both_64  x3 y0 σ = some out) : V l d F 0 0 (XW d h σ) [some (.ref (h 0)), none, none, some (.int x3), none, none, none, none] 64 [.int y0] := by
  unfold f_X_both_64 at hf
  refine zr_istore 4 [some (.ref (h 0)), none, none, some (.int x3), some (.int y0), none, none, none] 66 C (by decide +kernel) rfl (by decide) rfl rfl ?_
  refine zr_iload_n 3 67 C (by decide +kernel) rfl rfl ?_
  refine zr_iconst (v := 1) 1 68 C (by decide +kernel) rfl rfl ?_
  refine zr_icmp_eq (off := 7) 75 71 C (by decide +kernel) (by decide) rfl hf (fun hf => ?_) (fun hf => ?_)
  · refine zr_iconst (v := 0) 0 76 C (by decide +kernel) rfl rfl ?_
    refine zr_less (zA (zN (zN (zN (zA (zN (zN (zN zE)))))))) ?_
    exact w_X_both_76 C T E _ _ _ hf
  · refine zr_iconst (v := 1) 1 72 C (by decide +kernel) rfl rfl ?_
    refine zr_goto (off := 4) 76 C (by decide +kernel) (by decide) ?_
    refine zr_less (zA (zN (zN (zN (zA (zN (zN (zN zE)))))))) ?_
    exact w_X_both_76 C T E _ _ _ hf
def f_X_both (p1 : Int32) (p2 : Int32) (p3 : Int32) (σ : zS) : Option (Int32 × zS) :=
  zbd (f_Sh_knows p1 σ) fun r2 σ1 =>
  (if r2 = 0 then
  some (-1, σ1)
  else
  zbd (f_Sh_knows p2 σ1) fun r4 σ3 =>
  (if r4 = 0 then
  some (-1, σ3)
  else
  zbd (f_X_isFrom p3 0 2 σ3) fun r6 σ5 =>
  (if r6 = 0 then
  some (-2, σ5)
  else
  zbd (f_X_measure_9 p1 σ5) fun _ σ7 =>
  zbd (f_X_measure_10 p2 σ7) fun _ σ8 =>
  (if p3 = 2 then
  f_X_both_64 p3 0 σ8
  else
  f_X_both_64 p3 1 σ8))))
set_option maxRecDepth 4000 in
theorem m_X_both {l : Launch} {d : zD} {h : Nat → Nat} {out : Int32 × zS} {σ : zS} {ad av : Nat → Nat} {p1 : Int32} {p2 : Int32} {p3 : Int32} (E : zXe d ad av) (hf : f_X_both p1 p2 p3 σ = some out) : zM l yX10_both cX10_both 8 (some .int) 5 115 d [.ref (h 0), .int p1, .int p2, .int p3] (XW d h σ) (XW d h out.2) (some (.int out.1)) := by
  refine zM_of [some (.ref (h 0)), some (.int p1), some (.int p2), some (.int p3), none, none, none, none] (by decide +kernel) rfl (Nat.le_of_ble_eq_true rfl) (fun F C T => ?_)
  unfold f_X_both at hf
  refine zr_aload_n 0 1 C (by decide +kernel) rfl rfl ?_
  refine xg_0_4 (idx := 40) 4 C (by decide +kernel) rfl q_562 ?_
  refine zr_iload_n 1 5 C (by decide +kernel) rfl rfl ?_
  refine k_Sh_knows (idx := 185) 8 C E (by decide +kernel) rfl q_711 (zb2 rfl rfl) (Nat.le_of_ble_eq_true rfl) hf (fun r2 σ1 hf => ?_)
  refine zr_if_eq (off := 14) 22 11 C (by decide +kernel) (by decide) rfl hf (fun hf => ?_) (fun hf => ?_)
  · refine zr_iconst (v := (-1)) (-1) 23 C (by decide +kernel) rfl rfl ?_
    obtain rfl := Option.some.inj hf
    exact zr_iret C (by decide +kernel) T
  · refine zr_aload_n 0 12 C (by decide +kernel) rfl rfl ?_
    refine xg_0_4 (idx := 40) 15 C (by decide +kernel) rfl q_562 ?_
    refine zr_iload_n 2 16 C (by decide +kernel) rfl rfl ?_
    refine k_Sh_knows (idx := 185) 19 C E (by decide +kernel) rfl q_711 (zb2 rfl rfl) (Nat.le_of_ble_eq_true rfl) hf (fun r4 σ3 hf => ?_)
    refine zr_if_ne (off := 5) 24 22 C (by decide +kernel) (by decide) rfl hf (fun hf => ?_) (fun hf => ?_)
    · refine zr_iload_n 3 25 C (by decide +kernel) rfl rfl ?_
      refine zr_iconst (v := 0) 0 26 C (by decide +kernel) rfl rfl ?_
      refine zr_iconst (v := 2) 2 27 C (by decide +kernel) rfl rfl ?_
      refine k_X_isFrom (idx := 159) 30 C E (by decide +kernel) rfl q_615 (zb2 rfl rfl) (Nat.le_of_ble_eq_true rfl) hf (fun r6 σ5 hf => ?_)
      refine zr_if_ne (off := 6) 36 33 C (by decide +kernel) (by decide) rfl hf (fun hf => ?_) (fun hf => ?_)
      · refine zr_aload_n 0 37 C (by decide +kernel) rfl rfl ?_
        refine zr_aload_n 0 38 C (by decide +kernel) rfl rfl ?_
        refine xg_0_8 (idx := 68) 41 C (by decide +kernel) rfl q_566 ?_
        refine zr_iload_n 1 42 C (by decide +kernel) rfl rfl ?_
        refine k_X_measure_9 (idx := 201) 45 C E (by decide +kernel) rfl q_728 (zb2 rfl rfl) (Nat.le_of_ble_eq_true rfl) hf (fun _ σ7 hf => ?_)
        refine zr_aload_n 0 46 C (by decide +kernel) rfl rfl ?_
        refine zr_aload_n 0 47 C (by decide +kernel) rfl rfl ?_
        refine xg_0_9 (idx := 72) 50 C (by decide +kernel) rfl q_567 ?_
        refine zr_iload_n 2 51 C (by decide +kernel) rfl rfl ?_
        refine k_X_measure_10 (idx := 201) 54 C E (by decide +kernel) rfl q_728 (zb2 rfl rfl) (Nat.le_of_ble_eq_true rfl) hf (fun _ σ8 hf => ?_)
        refine zr_iload_n 3 55 C (by decide +kernel) rfl rfl ?_
        refine zr_iconst (v := 2) 2 56 C (by decide +kernel) rfl rfl ?_
        refine zr_icmp_eq (off := 7) 63 59 C (by decide +kernel) (by decide) rfl hf (fun hf => ?_) (fun hf => ?_)
        · refine zr_iconst (v := 0) 0 64 C (by decide +kernel) rfl rfl ?_
          refine zr_less (zA (zN (zN (zA (zN (zN (zN (zN zE)))))))) ?_
          exact w_X_both_64 C T E _ _ _ hf
        · refine zr_iconst (v := 1) 1 60 C (by decide +kernel) rfl rfl ?_
          refine zr_goto (off := 4) 64 C (by decide +kernel) (by decide) ?_
          refine zr_less (zA (zN (zN (zA (zN (zN (zN (zN zE)))))))) ?_
          exact w_X_both_64 C T E _ _ _ hf
      · refine zr_bipush (v := (-2)) (-2) 35 C (by decide +kernel) rfl rfl ?_
        obtain rfl := Option.some.inj hf
        exact zr_iret C (by decide +kernel) T
    · refine zr_iconst (v := (-1)) (-1) 23 C (by decide +kernel) rfl rfl ?_
      obtain rfl := Option.some.inj hf
      exact zr_iret C (by decide +kernel) T
theorem y_X_both : zY yX10_both cX10_both 8 (some .int) 3 := ⟨q_781, q_72, by decide +kernel, by decide +kernel, by decide +kernel⟩
theorem k_X_both {l : Launch} {d : zD} {F : zF} {h : Nat → Nat} {σ : zS} {lv : List (Option Value)} {pc : Nat} {own : String} {cc : ByteArray} {nL fr lo idx : Nat} {rest : List Value} {β : Type} {kf : Int32 → zS → Option β} {o2 : β} {ad av : Nat → Nat}  {p1 : Int32} {p2 : Int32} {p3 : Int32} (pc' : Nat) (C : zOk d F own cc nL fr lo) (E : zXe d ad av) (hd : decode cc pc = .ok (.invokevirtual idx, 3)) (hp : pc + 3 = pc') (hq : Cond.methodLink own idx yX10_both ∈ zW) (hm : 5 + 1 ≤ fr ∧ 8 + (8 + 11) + 115 ≤ lo) (hr : (rest.map fun v => v.category).sum ≤ 8) (hf : zbd (f_X_both p1 p2 p3 σ) kf = some o2) (K : ∀ (r : Int32) (σ' : zS), kf r σ' = some o2 → V l d F 0 0 (XW d h σ') lv pc' (.int r :: rest)) : V l d F 0 0 (XW d h σ) lv pc (.int p3 :: .int p2 :: .int p1 :: .ref (h 0) :: rest) := by
  obtain ⟨q, h1, h2⟩ := zbd_some hf
  exact zr_callV y_X_both ⟨q_779, q_780⟩ 0 rfl rfl (As := [.int p1, .int p2, .int p3]) (m_X_both E h1) rfl rfl pc' C hd hp hq hm hr (K _ _ h2)
