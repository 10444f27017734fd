/-! StepsBeyond.laid(II)I -/
def f_X_laid_48b (k48 : Int32 → Int32 → Int32 → zS → Option (Int32 × zS)) (x2 : Int32) (x3 : Int32) (x4 : Int32) (σ : zS) : Option (Int32 × zS) :=
  (if 1600 ≤ x4 then
  some (-3, σ)
  else
  zbd (f_Ar_measureLoaf_9 x4 x3 σ) fun _ σ1 =>
  zbd (f_Ar_holds_9 x2 σ1) fun r3 σ2 =>
  (if r3 = 0 then
  k48 x2 x3 (x4 + 1) σ2
  else
  some (x4, σ2)))
set_option maxRecDepth 4000 in
theorem w_X_laid_48b {l : Launch} {d : zD} {F : zF} {h : Nat → Nat} {out : Int32 × zS} {ad av : Nat → Nat}  {k48 : Int32 → Int32 → Int32 → zS → Option (Int32 × zS)} (C : zOk d F RX10 cX10_laid 5 4 89) (T : zRt d F (some .int) (some (.int out.1)) (XW d h out.2)) (E : zXe d ad av) (H48 : ∀ (x2 : Int32) (x3 : Int32) (x4 : Int32) (σ : zS), k48 x2 x3 x4 σ = some out → V l d F 0 0 (XW d h σ) [some (.ref (h 0)), none, some (.int x2), some (.int x3), some (.int x4)] 48 []) (x2 : Int32) (x3 : Int32) (x4 : Int32) (σ : zS) (hf : f_X_laid_48b k48 x2 x3 x4 σ = some out) : V l d F 0 0 (XW d h σ) [some (.ref (h 0)), none, some (.int x2), some (.int x3), some (.int x4)] 48 [] := by
  unfold f_X_laid_48b at hf
  refine zr_iload 4 50 C (by decide +kernel) rfl rfl ?_
  refine zr_sipush (v := 1600) 1600 53 C (by decide +kernel) rfl rfl ?_
  refine zr_icmp_ge (off := 33) 86 56 C (by decide +kernel) (by decide) rfl hf (fun hf => ?_) (fun hf => ?_)
  · refine zr_bipush (v := (-3)) (-3) 88 C (by decide +kernel) rfl rfl ?_
    obtain rfl := Option.some.inj hf
    exact zr_iret C (by decide +kernel) T
  · refine zr_aload_n 0 57 C (by decide +kernel) rfl rfl ?_
    refine xg_0_8 (idx := 68) 60 C (by decide +kernel) rfl q_566 ?_
    refine zr_iload 4 62 C (by decide +kernel) rfl rfl ?_
    refine zr_iload_n 3 63 C (by decide +kernel) rfl rfl ?_
    refine k_Ar_measureLoaf_9 (idx := 208) 66 C E (by decide +kernel) rfl q_732 (zb2 rfl rfl) (Nat.le_of_ble_eq_true rfl) hf (fun _ σ1 hf => ?_)
    refine zr_aload_n 0 67 C (by decide +kernel) rfl rfl ?_
    refine xg_0_8 (idx := 68) 70 C (by decide +kernel) rfl q_566 ?_
    refine zr_iload_n 2 71 C (by decide +kernel) rfl rfl ?_
    refine k_Ar_holds_9 (idx := 205) 74 C E (by decide +kernel) rfl q_757 (zb2 rfl rfl) (Nat.le_of_ble_eq_true rfl) hf (fun r3 σ2 hf => ?_)
    refine zr_if_eq (off := 6) 80 77 C (by decide +kernel) (by decide) rfl hf (fun hf => ?_) (fun hf => ?_)
    · refine zr_iinc (j := 1) 4 [some (.ref (h 0)), none, some (.int x2), some (.int x3), some (.int (x4 + 1))] 83 C (by decide +kernel) rfl rfl rfl (by decide) rfl rfl ?_
      refine zr_goto (off := -35) 48 C (by decide +kernel) (by decide) ?_
      exact H48 _ _ _ _ hf
    · refine zr_iload 4 79 C (by decide +kernel) rfl rfl ?_
      obtain rfl := Option.some.inj hf
      exact zr_iret C (by decide +kernel) T
def f_X_laid_48  : Nat → Int32 → Int32 → Int32 → zS → Option (Int32 × zS)
  | 0, _, _, _, _ => none
  | n + 1, x2, x3, x4,  σ => f_X_laid_48b (fun x2 x3 x4 σ => f_X_laid_48  n x2 x3 x4 σ) x2 x3 x4 σ
theorem w_X_laid_48 {l : Launch} {d : zD} {F : zF} {h : Nat → Nat} {out : Int32 × zS} {ad av : Nat → Nat}   (C : zOk d F RX10 cX10_laid 5 4 89) (T : zRt d F (some .int) (some (.int out.1)) (XW d h out.2)) (E : zXe d ad av)  : ∀ (n : Nat) (x2 : Int32) (x3 : Int32) (x4 : Int32) (σ : zS), f_X_laid_48  n x2 x3 x4 σ = some out → V l d F 0 0 (XW d h σ) [some (.ref (h 0)), none, some (.int x2), some (.int x3), some (.int x4)] 48 [] := by
  intro n
  induction n with
  | zero =>
    intro x2 x3 x4 σ hf
    cases hf
  | succ n ih =>
    intro x2 x3 x4 σ hf
    exact w_X_laid_48b C T E ih x2 x3 x4 σ hf
def f_X_laid (p1 : Int32) (p2 : Int32) (σ : zS) : Option (Int32 × zS) :=
  zbd (f_Sh_knows p1 σ) fun r2 σ1 =>
  (if r2 = 0 then
  some (-1, σ1)
  else
  zbd (f_X_isPlace p2 σ1) fun r4 σ3 =>
  (if r4 = 0 then
  some (-2, σ3)
  else
  zin p1 12 ((if (σ3.2 23 p1.toNatClampNeg) = 5 then
  zbd (f_X_reachOf p1 σ3) fun r6 σ5 =>
  f_X_laid_48 zfu p2 r6 0 σ5
  else
  some (-13, σ3)))))
set_option maxRecDepth 4000 in
theorem m_X_laid {l : Launch} {d : zD} {h : Nat → Nat} {out : Int32 × zS} {σ : zS} {ad av : Nat → Nat} {p1 : Int32} {p2 : Int32} (E : zXe d ad av) (hf : f_X_laid p1 p2 σ = some out) : zM l yX10_laid cX10_laid 5 (some .int) 4 89 d [.ref (h 0), .int p1, .int p2] (XW d h σ) (XW d h out.2) (some (.int out.1)) := by
  refine zM_of [some (.ref (h 0)), some (.int p1), some (.int p2), none, none] (by decide +kernel) rfl (Nat.le_of_ble_eq_true rfl) (fun F C T => ?_)
  unfold f_X_laid at hf
  refine zr_aload_n 0 1 C (by decide +kernel) rfl rfl ?_
  refine xg_0_4 (idx := 40) 4 C (by decide +kernel) rfl q_562 ?_
  refine zr_iload_n 1 5 C (by decide +kernel) rfl rfl ?_
  refine k_Sh_knows (idx := 185) 8 C E (by decide +kernel) rfl q_711 (zb2 rfl rfl) (Nat.le_of_ble_eq_true rfl) hf (fun r2 σ1 hf => ?_)
  refine zr_if_ne (off := 5) 13 11 C (by decide +kernel) (by decide) rfl hf (fun hf => ?_) (fun hf => ?_)
  · refine zr_iload_n 2 14 C (by decide +kernel) rfl rfl ?_
    refine k_X_isPlace (idx := 123) 17 C E (by decide +kernel) rfl q_612 (zb2 rfl rfl) (Nat.le_of_ble_eq_true rfl) hf (fun r4 σ3 hf => ?_)
    refine zr_if_ne (off := 6) 23 20 C (by decide +kernel) (by decide) rfl hf (fun hf => ?_) (fun hf => ?_)
    · refine zr_aload_n 0 24 C (by decide +kernel) rfl rfl ?_
      refine xg_0_4 (idx := 40) 27 C (by decide +kernel) rfl q_562 ?_
      refine xg_5_0 (idx := 186) 30 C (by decide +kernel) rfl q_238 ?_
      refine zr_iload_n 1 31 C (by decide +kernel) rfl rfl ?_
      refine xl_23 32 C (by decide +kernel) rfl hf (fun hf => ?_)
      refine zr_iconst (v := 5) 5 33 C (by decide +kernel) rfl rfl ?_
      refine zr_icmp_eq (off := 6) 39 36 C (by decide +kernel) (by decide) rfl hf (fun hf => ?_) (fun hf => ?_)
      · refine zr_aload_n 0 40 C (by decide +kernel) rfl rfl ?_
        refine zr_iload_n 1 41 C (by decide +kernel) rfl rfl ?_
        refine k_X_reachOf (idx := 195) 44 C E (by decide +kernel) rfl q_715 (zb2 rfl rfl) (Nat.le_of_ble_eq_true rfl) hf (fun r6 σ5 hf => ?_)
        refine zr_istore_n 3 [some (.ref (h 0)), some (.int p1), some (.int p2), some (.int r6), none] 45 C (by decide +kernel) rfl (by decide) rfl rfl ?_
        refine zr_iconst (v := 0) 0 46 C (by decide +kernel) rfl rfl ?_
        refine zr_istore 4 [some (.ref (h 0)), some (.int p1), some (.int p2), some (.int r6), some (.int 0)] 48 C (by decide +kernel) rfl (by decide) rfl rfl ?_
        refine zr_less (zA (zN (zA (zA (zA zE))))) ?_
        exact w_X_laid_48 C T E zfu _ _ _ _ hf
      · refine zr_bipush (v := (-13)) (-13) 38 C (by decide +kernel) rfl rfl ?_
        obtain rfl := Option.some.inj hf
        exact zr_iret C (by decide +kernel) T
    · refine zr_bipush (v := (-2)) (-2) 22 C (by decide +kernel) rfl rfl ?_
      obtain rfl := Option.some.inj hf
      exact zr_iret C (by decide +kernel) T
  · refine zr_iconst (v := (-1)) (-1) 12 C (by decide +kernel) rfl rfl ?_
    obtain rfl := Option.some.inj hf
    exact zr_iret C (by decide +kernel) T
theorem y_X_laid : zY yX10_laid cX10_laid 5 (some .int) 2 := ⟨q_785, q_72, by decide +kernel, by decide +kernel, by decide +kernel⟩
theorem k_X_laid {l : Launch} {d : zD} {F : zF} {h : Nat → Nat} {σ : zS} {lv : List (Option Value)} {pc : Nat} {own : String} {cc : ByteArray} {nL fr lo idx : Nat} {rest : List Value} {β : Type} {kf : Int32 → zS → Option β} {o2 : β} {ad av : Nat → Nat}  {p1 : Int32} {p2 : Int32} (pc' : Nat) (C : zOk d F own cc nL fr lo) (E : zXe d ad av) (hd : decode cc pc = .ok (.invokevirtual idx, 3)) (hp : pc + 3 = pc') (hq : Cond.methodLink own idx yX10_laid ∈ zW) (hm : 4 + 1 ≤ fr ∧ 8 + (5 + 11) + 89 ≤ lo) (hr : (rest.map fun v => v.category).sum ≤ 8) (hf : zbd (f_X_laid p1 p2 σ) kf = some o2) (K : ∀ (r : Int32) (σ' : zS), kf r σ' = some o2 → V l d F 0 0 (XW d h σ') lv pc' (.int r :: rest)) : V l d F 0 0 (XW d h σ) lv pc (.int p2 :: .int p1 :: .ref (h 0) :: rest) := by
  obtain ⟨q, h1, h2⟩ := zbd_some hf
  exact zr_callV y_X_laid ⟨q_783, q_784⟩ 0 rfl rfl (As := [.int p1, .int p2]) (m_X_laid E h1) rfl rfl pc' C hd hp hq hm hr (K _ _ h2)
/-! StepsBeyond.ravine(IIIII)I -/
def f_X_ravine_50  (x1 : Int32) (x2 : Int32) (x3 : Int32) (x4 : Int32) (x5 : Int32) (x6 : Int32) (y0 : Int32) (σ : zS) : Option (Int32 × zS) :=
  (if x6 = 0 then
  some (-2, σ)
  else
  (if y0 = 0 then
  some (-2, σ)
  else
  zbd (f_X_isFrom x5 1 99 σ) fun r2 σ1 =>
  (if r2 = 0 then
  some (-2, σ1)
  else
  (if (σ1.1 308) < 6 then
  zbd (f_La_split x1 x2 x3 x4 x5 σ1) fun _ σ3 =>
  zlt (zsg σ3 308 ((σ3.1 308) + 1)) fun σ4 =>
  zbd (f_Vi_joinAll  σ4) fun _ σ5 =>
  some (σ5.1 308, σ5)
  else
  some (-4, σ1)))))
set_option maxRecDepth 4000 in
theorem w_X_ravine_50 {l : Launch} {d : zD} {F : zF} {h : Nat → Nat} {out : Int32 × zS} {ad av : Nat → Nat}   (C : zOk d F RX10 cX10_ravine 8 4 93) (T : zRt d F (some .int) (some (.int out.1)) (XW d h out.2)) (E : zXe d ad av)  (x1 : Int32) (x2 : Int32) (x3 : Int32) (x4 : Int32) (x5 : Int32) (x6 : Int32) (y0 : Int32) (σ : zS) (hf : f_X_ravine_50  x1 x2 x3 x4 x5 x6 y0 σ = some out) : V l d F 0 0 (XW d h σ) [some (.ref (h 0)), some (.int x1), some (.int x2), some (.int x3), some (.int x4), some (.int x5), some (.int x6), none] 50 [.int y0] := by
  unfold f_X_ravine_50 at hf
  refine zr_istore 7 [some (.ref (h 0)), some (.int x1), some (.int x2), some (.int x3), some (.int x4), some (.int x5), some (.int x6), some (.int y0)] 52 C (by decide +kernel) rfl (by decide) rfl rfl ?_
  refine zr_iload 6 54 C (by decide +kernel) rfl rfl ?_
  refine zr_if_eq (off := 19) 73 57 C (by decide +kernel) (by decide) rfl hf (fun hf => ?_) (fun hf => ?_)
  · refine zr_bipush (v := (-2)) (-2) 75 C (by decide +kernel) rfl rfl ?_
    obtain rfl := Option.some.inj hf
    exact zr_iret C (by decide +kernel) T
  · refine zr_iload 7 59 C (by decide +kernel) rfl rfl ?_
    refine zr_if_eq (off := 14) 73 62 C (by decide +kernel) (by decide) rfl hf (fun hf => ?_) (fun hf => ?_)
    · refine zr_bipush (v := (-2)) (-2) 75 C (by decide +kernel) rfl rfl ?_
      obtain rfl := Option.some.inj hf
      exact zr_iret C (by decide +kernel) T
    · refine zr_iload 5 64 C (by decide +kernel) rfl rfl ?_
      refine zr_iconst (v := 1) 1 65 C (by decide +kernel) rfl rfl ?_
      refine zr_bipush (v := 99) 99 67 C (by decide +kernel) rfl rfl ?_
      refine k_X_isFrom (idx := 159) 70 C E (by decide +kernel) rfl q_615 (zb2 rfl rfl) (Nat.le_of_ble_eq_true rfl) hf (fun r2 σ1 hf => ?_)
      refine zr_if_ne (off := 6) 76 73 C (by decide +kernel) (by decide) rfl hf (fun hf => ?_) (fun hf => ?_)
      · refine zr_aload_n 0 77 C (by decide +kernel) rfl rfl ?_
        refine xg_0_2 (idx := 26) 80 C (by decide +kernel) rfl q_560 ?_
        refine xg_3_8 (idx := 212) 83 C (by decide +kernel) rfl q_195 ?_
        refine zr_bipush (v := 6) 6 85 C (by decide +kernel) rfl rfl ?_
        refine zr_icmp_lt (off := 6) 91 88 C (by decide +kernel) (by decide) rfl hf (fun hf => ?_) (fun hf => ?_)
        · refine zr_aload_n 0 92 C (by decide +kernel) rfl rfl ?_
          refine xg_0_3 (idx := 33) 95 C (by decide +kernel) rfl q_561 ?_
          refine zr_iload_n 1 96 C (by decide +kernel) rfl rfl ?_
          refine zr_iload_n 2 97 C (by decide +kernel) rfl rfl ?_
          refine zr_iload_n 3 98 C (by decide +kernel) rfl rfl ?_
          refine zr_iload 4 100 C (by decide +kernel) rfl rfl ?_
          refine zr_iload 5 102 C (by decide +kernel) rfl rfl ?_
          refine k_La_split (idx := 215) 105 C E (by decide +kernel) rfl q_790 (zb2 rfl rfl) (Nat.le_of_ble_eq_true rfl) hf (fun _ σ3 hf => ?_)
          refine zr_aload_n 0 106 C (by decide +kernel) rfl rfl ?_
          refine xg_0_2 (idx := 26) 109 C (by decide +kernel) rfl q_560 ?_
          refine zr_dup 110 C (by decide +kernel) rfl rfl ?_
          refine xg_3_8 (idx := 212) 113 C (by decide +kernel) rfl q_195 ?_
          refine zr_iconst (v := 1) 1 114 C (by decide +kernel) rfl rfl ?_
          refine zr_iadd 115 C (by decide +kernel) rfl ?_
          refine xp_3_8 (idx := 212) 118 C (by decide +kernel) rfl q_195 hf (fun σ4 hf => ?_)
          refine zr_aload_n 0 119 C (by decide +kernel) rfl rfl ?_
          refine xg_0_2 (idx := 26) 122 C (by decide +kernel) rfl q_560 ?_
          refine k_Vi_joinAll (idx := 139) 125 C E (by decide +kernel) rfl q_633 (zb2 rfl rfl) (Nat.le_of_ble_eq_true rfl) hf (fun _ σ5 hf => ?_)
          refine zr_aload_n 0 126 C (by decide +kernel) rfl rfl ?_
          refine xg_0_2 (idx := 26) 129 C (by decide +kernel) rfl q_560 ?_
          refine xg_3_8 (idx := 212) 132 C (by decide +kernel) rfl q_195 ?_
          obtain rfl := Option.some.inj hf
          exact zr_iret C (by decide +kernel) T
        · refine zr_bipush (v := (-4)) (-4) 90 C (by decide +kernel) rfl rfl ?_
          obtain rfl := Option.some.inj hf
          exact zr_iret C (by decide +kernel) T
      · refine zr_bipush (v := (-2)) (-2) 75 C (by decide +kernel) rfl rfl ?_
        obtain rfl := Option.some.inj hf
        exact zr_iret C (by decide +kernel) T
def f_X_ravine_49  (x1 : Int32) (x2 : Int32) (x3 : Int32) (x4 : Int32) (x5 : Int32) (x6 : Int32) (σ : zS) : Option (Int32 × zS) :=
  f_X_ravine_50 x1 x2 x3 x4 x5 x6 0 σ
set_option maxRecDepth 4000 in
theorem w_X_ravine_49 {l : Launch} {d : zD} {F : zF} {h : Nat → Nat} {out : Int32 × zS} {ad av : Nat → Nat}   (C : zOk d F RX10 cX10_ravine 8 4 93) (T : zRt d F (some .int) (some (.int out.1)) (XW d h out.2)) (E : zXe d ad av)  (x1 : Int32) (x2 : Int32) (x3 : Int32) (x4 : Int32) (x5 : Int32) (x6 : Int32) (σ : zS) (hf : f_X_ravine_49  x1 x2 x3 x4 x5 x6 σ = some out) : V l d F 0 0 (XW d h σ) [some (.ref (h 0)), some (.int x1), some (.int x2), some (.int x3), some (.int x4), some (.int x5), some (.int x6), none] 49 [] := by
  unfold f_X_ravine_49 at hf
  refine zr_iconst (v := 0) 0 50 C (by decide +kernel) rfl rfl ?_
  exact w_X_ravine_50 C T E _ _ _ _ _ _ _ _ hf
def f_X_ravine_22  (x1 : Int32) (x2 : Int32) (x3 : Int32) (x4 : Int32) (x5 : Int32) (y0 : Int32) (σ : zS) : Option (Int32 × zS) :=
  zbd (f_X_isFrom x3 0 39 σ) fun r2 σ1 =>
  (if r2 = 0 then
  f_X_ravine_49 x1 x2 x3 x4 x5 y0 σ1
  else
  zbd (f_X_isFrom x4 x3 39 σ1) fun r4 σ3 =>
  (if r4 = 0 then
  f_X_ravine_49 x1 x2 x3 x4 x5 y0 σ3
  else
  f_X_ravine_50 x1 x2 x3 x4 x5 y0 1 σ3))
set_option maxRecDepth 4000 in
theorem w_X_ravine_22 {l : Launch} {d : zD} {F : zF} {h : Nat → Nat} {out : Int32 × zS} {ad av : Nat → Nat}   (C : zOk d F RX10 cX10_ravine 8 4 93) (T : zRt d F (some .int) (some (.int out.1)) (XW d h out.2)) (E : zXe d ad av)  (x1 : Int32) (x2 : Int32) (x3 : Int32) (x4 : Int32) (x5 : Int32) (y0 : Int32) (σ : zS) (hf : f_X_ravine_22  x1 x2 x3 x4 x5 y0 σ = some out) : V l d F 0 0 (XW d h σ) [some (.ref (h 0)), some (.int x1), some (.int x2), some (.int x3), some (.int x4), some (.int x5), none, none] 22 [.int y0] := by
  unfold f_X_ravine_22 at hf
  refine zr_istore 6 [some (.ref (h 0)), some (.int x1), some (.int x2), some (.int x3), some (.int x4), some (.int x5), some (.int y0), none] 24 C (by decide +kernel) rfl (by decide) rfl rfl ?_
  refine zr_iload_n 3 25 C (by decide +kernel) rfl rfl ?_
  refine zr_iconst (v := 0) 0 26 C (by decide +kernel) rfl rfl ?_
  refine zr_bipush (v := 39) 39 28 C (by decide +kernel) rfl rfl ?_
  refine k_X_isFrom (idx := 159) 31 C E (by decide +kernel) rfl q_615 (zb2 rfl rfl) (Nat.le_of_ble_eq_true rfl) hf (fun r2 σ1 hf => ?_)
  refine zr_if_eq (off := 18) 49 34 C (by decide +kernel) (by decide) rfl hf (fun hf => ?_) (fun hf => ?_)
  · exact w_X_ravine_49 C T E _ _ _ _ _ _ _ hf
  · refine zr_iload 4 36 C (by decide +kernel) rfl rfl ?_
    refine zr_iload_n 3 37 C (by decide +kernel) rfl rfl ?_
    refine zr_bipush (v := 39) 39 39 C (by decide +kernel) rfl rfl ?_
    refine k_X_isFrom (idx := 159) 42 C E (by decide +kernel) rfl q_615 (zb2 rfl rfl) (Nat.le_of_ble_eq_true rfl) hf (fun r4 σ3 hf => ?_)
    refine zr_if_eq (off := 7) 49 45 C (by decide +kernel) (by decide) rfl hf (fun hf => ?_) (fun hf => ?_)
    · exact w_X_ravine_49 C T E _ _ _ _ _ _ _ hf
    · refine zr_iconst (v := 1) 1 46 C (by decide +kernel) rfl rfl ?_
      refine zr_goto (off := 4) 50 C (by decide +kernel) (by decide) ?_
      exact w_X_ravine_50 C T E _ _ _ _ _ _ _ _ hf
def f_X_ravine_21  (x1 : Int32) (x2 : Int32) (x3 : Int32) (x4 : Int32) (x5 : Int32) (σ : zS) : Option (Int32 × zS) :=
  f_X_ravine_22 x1 x2 x3 x4 x5 0 σ
set_option maxRecDepth 4000 in
theorem w_X_ravine_21 {l : Launch} {d : zD} {F : zF} {h : Nat → Nat} {out : Int32 × zS} {ad av : Nat → Nat}   (C : zOk d F RX10 cX10_ravine 8 4 93) (T : zRt d F (some .int) (some (.int out.1)) (XW d h out.2)) (E : zXe d ad av)  (x1 : Int32) (x2 : Int32) (x3 : Int32) (x4 : Int32) (x5 : Int32) (σ : zS) (hf : f_X_ravine_21  x1 x2 x3 x4 x5 σ = some out) : V l d F 0 0 (XW d h σ) [some (.ref (h 0)), some (.int x1), some (.int x2), some (.int x3), some (.int x4), some (.int x5), none, none] 21 [] := by
  unfold f_X_ravine_21 at hf
  refine zr_iconst (v := 0) 0 22 C (by decide +kernel) rfl rfl ?_
  exact w_X_ravine_22 C T E _ _ _ _ _ _ _ hf
def f_X_ravine (p1 : Int32) (p2 : Int32) (p3 : Int32) (p4 : Int32) (p5 : Int32) (σ : zS) : Option (Int32 × zS) :=
  zbd (f_X_isBit p1 σ) fun r2 σ1 =>
  (if r2 = 0 then
  f_X_ravine_21 p1 p2 p3 p4 p5 σ1
  else
  zbd (f_X_isFrom p2 1 39 σ1) fun r4 σ3 =>
  (if r4 = 0 then
  f_X_ravine_21 p1 p2 p3 p4 p5 σ3
  else
  f_X_ravine_22 p1 p2 p3 p4 p5 1 σ3))
set_option maxRecDepth 4000 in
theorem m_X_ravine {l : Launch} {d : zD} {h : Nat → Nat} {out : Int32 × zS} {σ : zS} {ad av : Nat → Nat} {p1 : Int32} {p2 : Int32} {p3 : Int32} {p4 : Int32} {p5 : Int32} (E : zXe d ad av) (hf : f_X_ravine p1 p2 p3 p4 p5 σ = some out) : zM l yX10_ravine cX10_ravine 8 (some .int) 4 93 d [.ref (h 0), .int p1, .int p2, .int p3, .int p4, .int p5] (XW d h σ) (XW d h out.2) (some (.int out.1)) := by
  refine zM_of [some (.ref (h 0)), some (.int p1), some (.int p2), some (.int p3), some (.int p4), some (.int p5), none, none] (by decide +kernel) rfl (Nat.le_of_ble_eq_true rfl) (fun F C T => ?_)
  unfold f_X_ravine at hf
  refine zr_iload_n 1 1 C (by decide +kernel) rfl rfl ?_
  refine k_X_isBit (idx := 127) 4 C E (by decide +kernel) rfl q_618 (zb2 rfl rfl) (Nat.le_of_ble_eq_true rfl) hf (fun r2 σ1 hf => ?_)
  refine zr_if_eq (off := 17) 21 7 C (by decide +kernel) (by decide) rfl hf (fun hf => ?_) (fun hf => ?_)
  · exact w_X_ravine_21 C T E _ _ _ _ _ _ hf
  · refine zr_iload_n 2 8 C (by decide +kernel) rfl rfl ?_
    refine zr_iconst (v := 1) 1 9 C (by decide +kernel) rfl rfl ?_
    refine zr_bipush (v := 39) 39 11 C (by decide +kernel) rfl rfl ?_
    refine k_X_isFrom (idx := 159) 14 C E (by decide +kernel) rfl q_615 (zb2 rfl rfl) (Nat.le_of_ble_eq_true rfl) hf (fun r4 σ3 hf => ?_)
    refine zr_if_eq (off := 7) 21 17 C (by decide +kernel) (by decide) rfl hf (fun hf => ?_) (fun hf => ?_)
    · exact w_X_ravine_21 C T E _ _ _ _ _ _ hf
    · refine zr_iconst (v := 1) 1 18 C (by decide +kernel) rfl rfl ?_
      refine zr_goto (off := 4) 22 C (by decide +kernel) (by decide) ?_
      exact w_X_ravine_22 C T E _ _ _ _ _ _ _ hf
theorem y_X_ravine : zY yX10_ravine cX10_ravine 8 (some .int) 5 := ⟨q_789, q_72, by decide +kernel, by decide +kernel, by decide +kernel⟩
theorem k_X_ravine {l : Launch} {d : zD} {F : zF} {h : Nat → Nat} {σ : zS} {lv : List (Option Value)} {pc : Nat} {own : String} {cc : ByteArray} {nL fr lo idx : Nat} {rest : List Value} {β : Type} {kf : Int32 → zS → Option β} {o2 : β} {ad av : Nat → Nat}  {p1 : Int32} {p2 : Int32} {p3 : Int32} {p4 : Int32} {p5 : Int32} (pc' : Nat) (C : zOk d F own cc nL fr lo) (E : zXe d ad av) (hd : decode cc pc = .ok (.invokevirtual idx, 3)) (hp : pc + 3 = pc') (hq : Cond.methodLink own idx yX10_ravine ∈ zW) (hm : 4 + 1 ≤ fr ∧ 8 + (8 + 11) + 93 ≤ lo) (hr : (rest.map fun v => v.category).sum ≤ 8) (hf : zbd (f_X_ravine p1 p2 p3 p4 p5 σ) kf = some o2) (K : ∀ (r : Int32) (σ' : zS), kf r σ' = some o2 → V l d F 0 0 (XW d h σ') lv pc' (.int r :: rest)) : V l d F 0 0 (XW d h σ) lv pc (.int p5 :: .int p4 :: .int p3 :: .int p2 :: .int p1 :: .ref (h 0) :: rest) := by
  obtain ⟨q, h1, h2⟩ := zbd_some hf
  exact zr_callV y_X_ravine ⟨q_787, q_788⟩ 0 rfl rfl (As := [.int p1, .int p2, .int p3, .int p4, .int p5]) (m_X_ravine E h1) rfl rfl pc' C hd hp hq hm hr (K _ _ h2)
/-! StepsBeyond.steps(II)I -/
def f_X_steps (p1 : Int32) (p2 : Int32) (σ : zS) : Option (Int32 × zS) :=
  zbd (f_X_isPlace p1 σ) fun r2 σ1 =>
  (if r2 = 0 then
  some (-2, σ1)
  else
  zbd (f_X_isPlace p2 σ1) fun r4 σ3 =>
  (if r4 = 0 then
  some (-2, σ3)
  else
  zbd (f_La_walkFrom_12 p1 σ3) fun _ σ5 =>
  zin p2 1600 (some (σ5.2 12 p2.toNatClampNeg, σ5))))
set_option maxRecDepth 4000 in
theorem m_X_steps {l : Launch} {d : zD} {h : Nat → Nat} {out : Int32 × zS} {σ : zS} {ad av : Nat → Nat} {p1 : Int32} {p2 : Int32} (E : zXe d ad av) (hf : f_X_steps p1 p2 σ = some out) : zM l yX10_steps cX10_steps 3 (some .int) 3 74 d [.ref (h 0), .int p1, .int p2] (XW d h σ) (XW d h out.2) (some (.int out.1)) := by
  refine zM_of [some (.ref (h 0)), some (.int p1), some (.int p2)] (by decide +kernel) rfl (Nat.le_of_ble_eq_true rfl) (fun F C T => ?_)
  unfold f_X_steps at hf
  refine zr_iload_n 1 1 C (by decide +kernel) rfl rfl ?_
  refine k_X_isPlace (idx := 123) 4 C E (by decide +kernel) rfl q_612 (zb2 rfl rfl) (Nat.le_of_ble_eq_true rfl) hf (fun r2 σ1 hf => ?_)
  refine zr_if_eq (off := 10) 14 7 C (by decide +kernel) (by decide) rfl hf (fun hf => ?_) (fun hf => ?_)
  · refine zr_bipush (v := (-2)) (-2) 16 C (by decide +kernel) rfl rfl ?_
    obtain rfl := Option.some.inj hf
    exact zr_iret C (by decide +kernel) T
  · refine zr_iload_n 2 8 C (by decide +kernel) rfl rfl ?_
    refine k_X_isPlace (idx := 123) 11 C E (by decide +kernel) rfl q_612 (zb2 rfl rfl) (Nat.le_of_ble_eq_true rfl) hf (fun r4 σ3 hf => ?_)
    refine zr_if_ne (off := 6) 17 14 C (by decide +kernel) (by decide) rfl hf (fun hf => ?_) (fun hf => ?_)
    · refine zr_aload_n 0 18 C (by decide +kernel) rfl rfl ?_
      refine xg_0_3 (idx := 33) 21 C (by decide +kernel) rfl q_561 ?_
      refine zr_iload_n 1 22 C (by decide +kernel) rfl rfl ?_
      refine zr_aload_n 0 23 C (by decide +kernel) rfl rfl ?_
      refine xg_0_10 (idx := 75) 26 C (by decide +kernel) rfl q_568 ?_
      refine k_La_walkFrom_12 (idx := 219) 29 C E (by decide +kernel) rfl q_798 (zb2 rfl rfl) (Nat.le_of_ble_eq_true rfl) hf (fun _ σ5 hf => ?_)
      refine zr_aload_n 0 30 C (by decide +kernel) rfl rfl ?_
      refine xg_0_10 (idx := 75) 33 C (by decide +kernel) rfl q_568 ?_
      refine zr_iload_n 2 34 C (by decide +kernel) rfl rfl ?_
      refine xl_12 35 C (by decide +kernel) rfl hf (fun hf => ?_)
      obtain rfl := Option.some.inj hf
      exact zr_iret C (by decide +kernel) T
    · refine zr_bipush (v := (-2)) (-2) 16 C (by decide +kernel) rfl rfl ?_
      obtain rfl := Option.some.inj hf
      exact zr_iret C (by decide +kernel) T
theorem y_X_steps : zY yX10_steps cX10_steps 3 (some .int) 2 := ⟨q_797, q_72, by decide +kernel, by decide +kernel, by decide +kernel⟩
theorem k_X_steps {l : Launch} {d : zD} {F : zF} {h : Nat → Nat} {σ : zS} {lv : List (Option Value)} {pc : Nat} {own : String} {cc : ByteArray} {nL fr lo idx : Nat} {rest : List Value} {β : Type} {kf : Int32 → zS → Option β} {o2 : β} {ad av : Nat → Nat}  {p1 : Int32} {p2 : Int32} (pc' : Nat) (C : zOk d F own cc nL fr lo) (E : zXe d ad av) (hd : decode cc pc = .ok (.invokevirtual idx, 3)) (hp : pc + 3 = pc') (hq : Cond.methodLink own idx yX10_steps ∈ zW) (hm : 3 + 1 ≤ fr ∧ 8 + (3 + 11) + 74 ≤ lo) (hr : (rest.map fun v => v.category).sum ≤ 8) (hf : zbd (f_X_steps p1 p2 σ) kf = some o2) (K : ∀ (r : Int32) (σ' : zS), kf r σ' = some o2 → V l d F 0 0 (XW d h σ') lv pc' (.int r :: rest)) : V l d F 0 0 (XW d h σ) lv pc (.int p2 :: .int p1 :: .ref (h 0) :: rest) := by
  obtain ⟨q, h1, h2⟩ := zbd_some hf
  exact zr_callV y_X_steps ⟨q_795, q_796⟩ 0 rfl rfl (As := [.int p1, .int p2]) (m_X_steps E h1) rfl rfl pc' C hd hp hq hm hr (K _ _ h2)
/-! StepsBeyond.person(II)I -/
def f_X_person (p1 : Int32) (p2 : Int32) (σ : zS) : Option (Int32 × zS) :=
  zbd (f_X_isPlace p1 σ) fun r2 σ1 =>
  (if r2 = 0 then
  some (-2, σ1)
  else
  zbd (f_Sh_knows p2 σ1) fun r4 σ3 =>
  (if r4 = 0 then
  some (-1, σ3)
  else
  zbd (f_Pe_add p1 p2 σ3) fun r6 σ5 =>
  some (r6, σ5)))
set_option maxRecDepth 4000 in
theorem m_X_person {l : Launch} {d : zD} {h : Nat → Nat} {out : Int32 × zS} {σ : zS} {ad av : Nat → Nat} {p1 : Int32} {p2 : Int32} (E : zXe d ad av) (hf : f_X_person p1 p2 σ = some out) : zM l yX10_person cX10_person 3 (some .int) 2 42 d [.ref (h 0), .int p1, .int p2] (XW d h σ) (XW d h out.2) (some (.int out.1)) := by
  refine zM_of [some (.ref (h 0)), some (.int p1), some (.int p2)] (by decide +kernel) rfl (Nat.le_of_ble_eq_true rfl) (fun F C T => ?_)
  unfold f_X_person at hf
  refine zr_iload_n 1 1 C (by decide +kernel) rfl rfl ?_
  refine k_X_isPlace (idx := 123) 4 C E (by decide +kernel) rfl q_612 (zb2 rfl rfl) (Nat.le_of_ble_eq_true rfl) hf (fun r2 σ1 hf => ?_)
  refine zr_if_ne (off := 6) 10 7 C (by decide +kernel) (by decide) rfl hf (fun hf => ?_) (fun hf => ?_)
  · refine zr_aload_n 0 11 C (by decide +kernel) rfl rfl ?_
    refine xg_0_4 (idx := 40) 14 C (by decide +kernel) rfl q_562 ?_
    refine zr_iload_n 2 15 C (by decide +kernel) rfl rfl ?_
    refine k_Sh_knows (idx := 185) 18 C E (by decide +kernel) rfl q_711 (zb2 rfl rfl) (Nat.le_of_ble_eq_true rfl) hf (fun r4 σ3 hf => ?_)
    refine zr_if_ne (off := 5) 23 21 C (by decide +kernel) (by decide) rfl hf (fun hf => ?_) (fun hf => ?_)
    · refine zr_aload_n 0 24 C (by decide +kernel) rfl rfl ?_
      refine xg_0_5 (idx := 47) 27 C (by decide +kernel) rfl q_563 ?_
      refine zr_iload_n 1 28 C (by decide +kernel) rfl rfl ?_
      refine zr_iload_n 2 29 C (by decide +kernel) rfl rfl ?_
      refine k_Pe_add (idx := 223) 32 C E (by decide +kernel) rfl q_819 (zb2 rfl rfl) (Nat.le_of_ble_eq_true rfl) hf (fun r6 σ5 hf => ?_)
      obtain rfl := Option.some.inj hf
      exact zr_iret C (by decide +kernel) T
    · refine zr_iconst (v := (-1)) (-1) 22 C (by decide +kernel) rfl rfl ?_
      obtain rfl := Option.some.inj hf
      exact zr_iret C (by decide +kernel) T
  · refine zr_bipush (v := (-2)) (-2) 9 C (by decide +kernel) rfl rfl ?_
    obtain rfl := Option.some.inj hf
    exact zr_iret C (by decide +kernel) T
theorem y_X_person : zY yX10_person cX10_person 3 (some .int) 2 := ⟨q_818, q_72, by decide +kernel, by decide +kernel, by decide +kernel⟩
theorem k_X_person {l : Launch} {d : zD} {F : zF} {h : Nat → Nat} {σ : zS} {lv : List (Option Value)} {pc : Nat} {own : String} {cc : ByteArray} {nL fr lo idx : Nat} {rest : List Value} {β : Type} {kf : Int32 → zS → Option β} {o2 : β} {ad av : Nat → Nat}  {p1 : Int32} {p2 : Int32} (pc' : Nat) (C : zOk d F own cc nL fr lo) (E : zXe d ad av) (hd : decode cc pc = .ok (.invokevirtual idx, 3)) (hp : pc + 3 = pc') (hq : Cond.methodLink own idx yX10_person ∈ zW) (hm : 2 + 1 ≤ fr ∧ 8 + (3 + 11) + 42 ≤ lo) (hr : (rest.map fun v => v.category).sum ≤ 8) (hf : zbd (f_X_person p1 p2 σ) kf = some o2) (K : ∀ (r : Int32) (σ' : zS), kf r σ' = some o2 → V l d F 0 0 (XW d h σ') lv pc' (.int r :: rest)) : V l d F 0 0 (XW d h σ) lv pc (.int p2 :: .int p1 :: .ref (h 0) :: rest) := by
  obtain ⟨q, h1, h2⟩ := zbd_some hf
  exact zr_callV y_X_person ⟨q_816, q_817⟩ 0 rfl rfl (As := [.int p1, .int p2]) (m_X_person E h1) rfl rfl pc' C hd hp hq hm hr (K _ _ h2)
/-! StepsBeyond.moves(II)I -/
def f_X_moves (p1 : Int32) (p2 : Int32) (σ : zS) : Option (Int32 × zS) :=
  zbd (f_Pe_knows p1 σ) fun r2 σ1 =>
  (if r2 = 0 then
  some (-1, σ1)
  else
  zbd (f_X_isPlace p2 σ1) fun r4 σ3 =>
  (if r4 = 0 then
  some (-2, σ3)
  else
  zin p1 8 (zlt (σ3.2 26 p1.toNatClampNeg) fun v5 => 
  zin p1 8 (zlt (zsa σ3 26 p1 p2) fun σ6 =>
  some (v5, σ6)))))
set_option maxRecDepth 4000 in
theorem m_X_moves {l : Launch} {d : zD} {h : Nat → Nat} {out : Int32 × zS} {σ : zS} {ad av : Nat → Nat} {p1 : Int32} {p2 : Int32} (E : zXe d ad av) (hf : f_X_moves p1 p2 σ = some out) : zM l yX10_moves cX10_moves 4 (some .int) 2 42 d [.ref (h 0), .int p1, .int p2] (XW d h σ) (XW d h out.2) (some (.int out.1)) := by
  refine zM_of [some (.ref (h 0)), some (.int p1), some (.int p2), none] (by decide +kernel) rfl (Nat.le_of_ble_eq_true rfl) (fun F C T => ?_)
  unfold f_X_moves at hf
  refine zr_aload_n 0 1 C (by decide +kernel) rfl rfl ?_
  refine xg_0_5 (idx := 47) 4 C (by decide +kernel) rfl q_563 ?_
  refine zr_iload_n 1 5 C (by decide +kernel) rfl rfl ?_
  refine k_Pe_knows (idx := 224) 8 C E (by decide +kernel) rfl q_827 (zb2 rfl rfl) (Nat.le_of_ble_eq_true rfl) hf (fun r2 σ1 hf => ?_)
  refine zr_if_ne (off := 5) 13 11 C (by decide +kernel) (by decide) rfl hf (fun hf => ?_) (fun hf => ?_)
  · refine zr_iload_n 2 14 C (by decide +kernel) rfl rfl ?_
    refine k_X_isPlace (idx := 123) 17 C E (by decide +kernel) rfl q_612 (zb2 rfl rfl) (Nat.le_of_ble_eq_true rfl) hf (fun r4 σ3 hf => ?_)
    refine zr_if_ne (off := 6) 23 20 C (by decide +kernel) (by decide) rfl hf (fun hf => ?_) (fun hf => ?_)
    · refine zr_aload_n 0 24 C (by decide +kernel) rfl rfl ?_
      refine xg_0_5 (idx := 47) 27 C (by decide +kernel) rfl q_563 ?_
      refine xg_6_0 (idx := 225) 30 C (by decide +kernel) rfl q_261 ?_
      refine zr_iload_n 1 31 C (by decide +kernel) rfl rfl ?_
      refine xl_26 32 C (by decide +kernel) rfl hf (fun hf => ?_)
      refine zr_name hf (fun v5 hf => ?_)
      refine zr_istore_n 3 [some (.ref (h 0)), some (.int p1), some (.int p2), some (.int v5)] 33 C (by decide +kernel) rfl (by decide) rfl rfl ?_
      refine zr_aload_n 0 34 C (by decide +kernel) rfl rfl ?_
      refine xg_0_5 (idx := 47) 37 C (by decide +kernel) rfl q_563 ?_
      refine xg_6_0 (idx := 225) 40 C (by decide +kernel) rfl q_261 ?_
      refine zr_iload_n 1 41 C (by decide +kernel) rfl rfl ?_
      refine zr_iload_n 2 42 C (by decide +kernel) rfl rfl ?_
      refine xs_26 43 C (by decide +kernel) rfl hf (fun σ6 hf => ?_)
      refine zr_iload_n 3 44 C (by decide +kernel) rfl rfl ?_
      obtain rfl := Option.some.inj hf
      exact zr_iret C (by decide +kernel) T
    · refine zr_bipush (v := (-2)) (-2) 22 C (by decide +kernel) rfl rfl ?_
      obtain rfl := Option.some.inj hf
      exact zr_iret C (by decide +kernel) T
  · refine zr_iconst (v := (-1)) (-1) 12 C (by decide +kernel) rfl rfl ?_
    obtain rfl := Option.some.inj hf
    exact zr_iret C (by decide +kernel) T
theorem y_X_moves : zY yX10_moves cX10_moves 4 (some .int) 2 := ⟨q_826, q_72, by decide +kernel, by decide +kernel, by decide +kernel⟩
theorem k_X_moves {l : Launch} {d : zD} {F : zF} {h : Nat → Nat} {σ : zS} {lv : List (Option Value)} {pc : Nat} {own : String} {cc : ByteArray} {nL fr lo idx : Nat} {rest : List Value} {β : Type} {kf : Int32 → zS → Option β} {o2 : β} {ad av : Nat → Nat}  {p1 : Int32} {p2 : Int32} (pc' : Nat) (C : zOk d F own cc nL fr lo) (E : zXe d ad av) (hd : decode cc pc = .ok (.invokevirtual idx, 3)) (hp : pc + 3 = pc') (hq : Cond.methodLink own idx yX10_moves ∈ zW) (hm : 2 + 1 ≤ fr ∧ 8 + (4 + 11) + 42 ≤ lo) (hr : (rest.map fun v => v.category).sum ≤ 8) (hf : zbd (f_X_moves p1 p2 σ) kf = some o2) (K : ∀ (r : Int32) (σ' : zS), kf r σ' = some o2 → V l d F 0 0 (XW d h σ') lv pc' (.int r :: rest)) : V l d F 0 0 (XW d h σ) lv pc (.int p2 :: .int p1 :: .ref (h 0) :: rest) := by
  obtain ⟨q, h1, h2⟩ := zbd_some hf
  exact zr_callV y_X_moves ⟨q_824, q_825⟩ 0 rfl rfl (As := [.int p1, .int p2]) (m_X_moves E h1) rfl rfl pc' C hd hp hq hm hr (K _ _ h2)
/-! StepsBeyond.isOut(I)Z -/
def f_X_isOut (p1 : Int32) (σ : zS) : Option (Int32 × zS) :=
  zin p1 8 (zbd (f_X_measure_9 (σ.2 27 p1.toNatClampNeg) σ) fun _ σ1 =>
  zin p1 8 (zbd (f_Ar_holds_9 (σ1.2 26 p1.toNatClampNeg) σ1) fun r3 σ2 =>
  (if r3 = 0 then
  some (1, σ2)
  else
  some (0, σ2))))
set_option maxRecDepth 4000 in
theorem m_X_isOut {l : Launch} {d : zD} {h : Nat → Nat} {out : Int32 × zS} {σ : zS} {ad av : Nat → Nat} {p1 : Int32} (E : zXe d ad av) (hf : f_X_isOut p1 σ = some out) : zM l yX10_isOut cX10_isOut 2 (some .boolean) 5 115 d [.ref (h 0), .int p1] (XW d h σ) (XW d h out.2) (some (.int out.1)) := by
  refine zM_of [some (.ref (h 0)), some (.int p1)] (by decide +kernel) rfl (Nat.le_of_ble_eq_true rfl) (fun F C T => ?_)
  unfold f_X_isOut at hf
  refine zr_aload_n 0 1 C (by decide +kernel) rfl rfl ?_
  refine zr_aload_n 0 2 C (by decide +kernel) rfl rfl ?_
  refine xg_0_8 (idx := 68) 5 C (by decide +kernel) rfl q_566 ?_
  refine zr_aload_n 0 6 C (by decide +kernel) rfl rfl ?_
  refine xg_0_5 (idx := 47) 9 C (by decide +kernel) rfl q_563 ?_
  refine xg_6_1 (idx := 228) 12 C (by decide +kernel) rfl q_263 ?_
  refine zr_iload_n 1 13 C (by decide +kernel) rfl rfl ?_
  refine xl_27 14 C (by decide +kernel) rfl hf (fun hf => ?_)
  refine k_X_measure_9 (idx := 201) 17 C E (by decide +kernel) rfl q_728 (zb2 rfl rfl) (Nat.le_of_ble_eq_true rfl) hf (fun _ σ1 hf => ?_)
  refine zr_aload_n 0 18 C (by decide +kernel) rfl rfl ?_
  refine xg_0_8 (idx := 68) 21 C (by decide +kernel) rfl q_566 ?_
  refine zr_aload_n 0 22 C (by decide +kernel) rfl rfl ?_
  refine xg_0_5 (idx := 47) 25 C (by decide +kernel) rfl q_563 ?_
  refine xg_6_0 (idx := 225) 28 C (by decide +kernel) rfl q_261 ?_
  refine zr_iload_n 1 29 C (by decide +kernel) rfl rfl ?_
  refine xl_26 30 C (by decide +kernel) rfl hf (fun hf => ?_)
  refine k_Ar_holds_9 (idx := 205) 33 C E (by decide +kernel) rfl q_757 (zb2 rfl rfl) (Nat.le_of_ble_eq_true rfl) hf (fun r3 σ2 hf => ?_)
  refine zr_if_ne (off := 7) 40 36 C (by decide +kernel) (by decide) rfl hf (fun hf => ?_) (fun hf => ?_)
  · refine zr_iconst (v := 0) 0 41 C (by decide +kernel) rfl rfl ?_
    obtain rfl := Option.some.inj hf
    exact zr_zret C (by decide +kernel) rfl T
  · refine zr_iconst (v := 1) 1 37 C (by decide +kernel) rfl rfl ?_
    refine zr_goto (off := 4) 41 C (by decide +kernel) (by decide) ?_
    obtain rfl := Option.some.inj hf
    exact zr_zret C (by decide +kernel) rfl T
theorem y_X_isOut : zY yX10_isOut cX10_isOut 2 (some .boolean) 1 := ⟨q_838, q_72, by decide +kernel, by decide +kernel, by decide +kernel⟩
theorem k_X_isOut {l : Launch} {d : zD} {F : zF} {h : Nat → Nat} {σ : zS} {lv : List (Option Value)} {pc : Nat} {own : String} {cc : ByteArray} {nL fr lo idx : Nat} {rest : List Value} {β : Type} {kf : Int32 → zS → Option β} {o2 : β} {ad av : Nat → Nat}  {p1 : Int32} (pc' : Nat) (C : zOk d F own cc nL fr lo) (E : zXe d ad av) (hd : decode cc pc = .ok (.invokevirtual idx, 3)) (hp : pc + 3 = pc') (hq : Cond.methodLink own idx yX10_isOut ∈ zW) (hm : 5 + 1 ≤ fr ∧ 8 + (2 + 11) + 115 ≤ lo) (hr : (rest.map fun v => v.category).sum ≤ 8) (hf : zbd (f_X_isOut p1 σ) kf = some o2) (K : ∀ (r : Int32) (σ' : zS), kf r σ' = some o2 → V l d F 0 0 (XW d h σ') lv pc' (.int r :: rest)) : V l d F 0 0 (XW d h σ) lv pc (.int p1 :: .ref (h 0) :: rest) := by
  obtain ⟨q, h1, h2⟩ := zbd_some hf
  exact zr_callV y_X_isOut ⟨q_837, q_27⟩ 0 rfl rfl (As := [.int p1]) (m_X_isOut E h1) rfl rfl pc' C hd hp hq hm hr (K _ _ h2)
/-! StepsBeyond.personTold(II)I -/
def f_X_personTold (p1 : Int32) (p2 : Int32) (σ : zS) : Option (Int32 × zS) :=
  zbd (f_Pe_knows p1 σ) fun r2 σ1 =>
  (if r2 = 0 then
  some (-5, σ1)
  else
  (if p2 = 0 then
  zin p1 8 (some (σ1.2 26 p1.toNatClampNeg, σ1))
  else
  (if p2 = 1 then
  zin p1 8 (some (σ1.2 27 p1.toNatClampNeg, σ1))
  else
  (if p2 = 2 then
  zbd (f_X_isOut p1 σ1) fun r4 σ3 =>
  (if r4 = 0 then
  some (0, σ3)
  else
  some (1, σ3))
  else
  some (-7, σ1)))))
set_option maxRecDepth 4000 in
theorem m_X_personTold {l : Launch} {d : zD} {h : Nat → Nat} {out : Int32 × zS} {σ : zS} {ad av : Nat → Nat} {p1 : Int32} {p2 : Int32} (E : zXe d ad av) (hf : f_X_personTold p1 p2 σ = some out) : zM l yX10_personTold cX10_personTold 3 (some .int) 6 136 d [.ref (h 0), .int p1, .int p2] (XW d h σ) (XW d h out.2) (some (.int out.1)) := by
  refine zM_of [some (.ref (h 0)), some (.int p1), some (.int p2)] (by decide +kernel) rfl (Nat.le_of_ble_eq_true rfl) (fun F C T => ?_)
  unfold f_X_personTold at hf
  refine zr_aload_n 0 1 C (by decide +kernel) rfl rfl ?_
  refine xg_0_5 (idx := 47) 4 C (by decide +kernel) rfl q_563 ?_
  refine zr_iload_n 1 5 C (by decide +kernel) rfl rfl ?_
  refine k_Pe_knows (idx := 224) 8 C E (by decide +kernel) rfl q_827 (zb2 rfl rfl) (Nat.le_of_ble_eq_true rfl) hf (fun r2 σ1 hf => ?_)
  refine zr_if_ne (off := 6) 14 11 C (by decide +kernel) (by decide) rfl hf (fun hf => ?_) (fun hf => ?_)
  · refine zr_iload_n 2 15 C (by decide +kernel) rfl rfl ?_
    refine zr_tcase (dflt := 59) (lw := 0) (hi := 2) (offs := #[25, 35, 45]) (len := 25) (off := 25) (j := 0) 0 40 C (by decide +kernel) (by decide) (by decide) rfl (by decide) hf (fun hf => ?_) (fun hn0 hf => ?_)
    · refine zr_aload_n 0 41 C (by decide +kernel) rfl rfl ?_
      refine xg_0_5 (idx := 47) 44 C (by decide +kernel) rfl q_563 ?_
      refine xg_6_0 (idx := 225) 47 C (by decide +kernel) rfl q_261 ?_
      refine zr_iload_n 1 48 C (by decide +kernel) rfl rfl ?_
      refine xl_26 49 C (by decide +kernel) rfl hf (fun hf => ?_)
      obtain rfl := Option.some.inj hf
      exact zr_iret C (by decide +kernel) T
    refine zr_tcase (dflt := 59) (lw := 0) (hi := 2) (offs := #[25, 35, 45]) (len := 25) (off := 35) (j := 1) 1 50 C (by decide +kernel) (by decide) (by decide) rfl (by decide) hf (fun hf => ?_) (fun hn1 hf => ?_)
    · refine zr_aload_n 0 51 C (by decide +kernel) rfl rfl ?_
      refine xg_0_5 (idx := 47) 54 C (by decide +kernel) rfl q_563 ?_
      refine xg_6_1 (idx := 228) 57 C (by decide +kernel) rfl q_263 ?_
      refine zr_iload_n 1 58 C (by decide +kernel) rfl rfl ?_
      refine xl_27 59 C (by decide +kernel) rfl hf (fun hf => ?_)
      obtain rfl := Option.some.inj hf
      exact zr_iret C (by decide +kernel) T
    refine zr_tcase (dflt := 59) (lw := 0) (hi := 2) (offs := #[25, 35, 45]) (len := 25) (off := 45) (j := 2) 2 60 C (by decide +kernel) (by decide) (by decide) rfl (by decide) hf (fun hf => ?_) (fun hn2 hf => ?_)
    · refine zr_aload_n 0 61 C (by decide +kernel) rfl rfl ?_
      refine zr_iload_n 1 62 C (by decide +kernel) rfl rfl ?_
      refine k_X_isOut (idx := 231) 65 C E (by decide +kernel) rfl q_835 (zb2 rfl rfl) (Nat.le_of_ble_eq_true rfl) hf (fun r4 σ3 hf => ?_)
      refine zr_if_eq (off := 7) 72 68 C (by decide +kernel) (by decide) rfl hf (fun hf => ?_) (fun hf => ?_)
      · refine zr_iconst (v := 0) 0 73 C (by decide +kernel) rfl rfl ?_
        obtain rfl := Option.some.inj hf
        exact zr_iret C (by decide +kernel) T
      · refine zr_iconst (v := 1) 1 69 C (by decide +kernel) rfl rfl ?_
        refine zr_goto (off := 4) 73 C (by decide +kernel) (by decide) ?_
        obtain rfl := Option.some.inj hf
        exact zr_iret C (by decide +kernel) T
    refine zr_tdflt (dflt := 59) (lw := 0) (hi := 2) (offs := #[25, 35, 45]) (len := 25) 74 C (by decide +kernel) (by decide) (by decide) (fun j hj hx => ?_) ?_
    · rcases (show j = 0 ∨ j = 1 ∨ j = 2 by have hj2 : j < 3 := hj; omega) with rfl | rfl | rfl
      · exact absurd (z_ti (c := 0) (by decide) hx) hn0
      · exact absurd (z_ti (c := 1) (by decide) hx) hn1
      · exact absurd (z_ti (c := 2) (by decide) hx) hn2
    refine zr_bipush (v := (-7)) (-7) 76 C (by decide +kernel) rfl rfl ?_
    obtain rfl := Option.some.inj hf
    exact zr_iret C (by decide +kernel) T
  · refine zr_bipush (v := (-5)) (-5) 13 C (by decide +kernel) rfl rfl ?_
    obtain rfl := Option.some.inj hf
    exact zr_iret C (by decide +kernel) T
theorem y_X_personTold : zY yX10_personTold cX10_personTold 3 (some .int) 2 := ⟨q_834, q_72, by decide +kernel, by decide +kernel, by decide +kernel⟩
theorem k_X_personTold {l : Launch} {d : zD} {F : zF} {h : Nat → Nat} {σ : zS} {lv : List (Option Value)} {pc : Nat} {own : String} {cc : ByteArray} {nL fr lo idx : Nat} {rest : List Value} {β : Type} {kf : Int32 → zS → Option β} {o2 : β} {ad av : Nat → Nat}  {p1 : Int32} {p2 : Int32} (pc' : Nat) (C : zOk d F own cc nL fr lo) (E : zXe d ad av) (hd : decode cc pc = .ok (.invokevirtual idx, 3)) (hp : pc + 3 = pc') (hq : Cond.methodLink own idx yX10_personTold ∈ zW) (hm : 6 + 1 ≤ fr ∧ 8 + (3 + 11) + 136 ≤ lo) (hr : (rest.map fun v => v.category).sum ≤ 8) (hf : zbd (f_X_personTold p1 p2 σ) kf = some o2) (K : ∀ (r : Int32) (σ' : zS), kf r σ' = some o2 → V l d F 0 0 (XW d h σ') lv pc' (.int r :: rest)) : V l d F 0 0 (XW d h σ) lv pc (.int p2 :: .int p1 :: .ref (h 0) :: rest) := by
  obtain ⟨q, h1, h2⟩ := zbd_some hf
  exact zr_callV y_X_personTold ⟨q_832, q_833⟩ 0 rfl rfl (As := [.int p1, .int p2]) (m_X_personTold E h1) rfl rfl pc' C hd hp hq hm hr (K _ _ h2)
/-! StepsBeyond.well(I)I -/
def f_X_well (p1 : Int32) (σ : zS) : Option (Int32 × zS) :=
  zbd (f_X_isPlace p1 σ) fun r2 σ1 =>
  (if r2 = 0 then
  some (-2, σ1)
  else
  (if (σ1.1 13) < 10 then
  zin (σ1.1 13) 10 (zlt (zsa σ1 14 (σ1.1 13) p1) fun σ3 =>
  zlt (zsg σ3 13 ((σ3.1 13) + 1)) fun σ4 =>
  some ((σ4.1 13) - 1, σ4))
  else
  some (-4, σ1)))
set_option maxRecDepth 4000 in
theorem m_X_well {l : Launch} {d : zD} {h : Nat → Nat} {out : Int32 × zS} {σ : zS} {ad av : Nat → Nat} {p1 : Int32} (E : zXe d ad av) (hf : f_X_well p1 σ = some out) : zM l yX10_well cX10_well 2 (some .int) 2 42 d [.ref (h 0), .int p1] (XW d h σ) (XW d h out.2) (some (.int out.1)) := by
  refine zM_of [some (.ref (h 0)), some (.int p1)] (by decide +kernel) rfl (Nat.le_of_ble_eq_true rfl) (fun F C T => ?_)
  unfold f_X_well at hf
  refine zr_iload_n 1 1 C (by decide +kernel) rfl rfl ?_
  refine k_X_isPlace (idx := 123) 4 C E (by decide +kernel) rfl q_612 (zb2 rfl rfl) (Nat.le_of_ble_eq_true rfl) hf (fun r2 σ1 hf => ?_)
  refine zr_if_ne (off := 6) 10 7 C (by decide +kernel) (by decide) rfl hf (fun hf => ?_) (fun hf => ?_)
  · refine zr_aload_n 0 11 C (by decide +kernel) rfl rfl ?_
    refine xg_0_13 (idx := 234) 14 C (by decide +kernel) rfl q_571 ?_
    refine zr_bipush (v := 10) 10 16 C (by decide +kernel) rfl rfl ?_
    refine zr_icmp_lt (off := 6) 22 19 C (by decide +kernel) (by decide) rfl hf (fun hf => ?_) (fun hf => ?_)
    · refine zr_aload_n 0 23 C (by decide +kernel) rfl rfl ?_
      refine xg_0_12 (idx := 82) 26 C (by decide +kernel) rfl q_570 ?_
      refine zr_aload_n 0 27 C (by decide +kernel) rfl rfl ?_
      refine xg_0_13 (idx := 234) 30 C (by decide +kernel) rfl q_571 ?_
      refine zr_iload_n 1 31 C (by decide +kernel) rfl rfl ?_
      refine xs_14 32 C (by decide +kernel) rfl hf (fun σ3 hf => ?_)
      refine zr_aload_n 0 33 C (by decide +kernel) rfl rfl ?_
      refine zr_dup 34 C (by decide +kernel) rfl rfl ?_
      refine xg_0_13 (idx := 234) 37 C (by decide +kernel) rfl q_571 ?_
      refine zr_iconst (v := 1) 1 38 C (by decide +kernel) rfl rfl ?_
      refine zr_iadd 39 C (by decide +kernel) rfl ?_
      refine xp_0_13 (idx := 234) 42 C (by decide +kernel) rfl q_571 hf (fun σ4 hf => ?_)
      refine zr_aload_n 0 43 C (by decide +kernel) rfl rfl ?_
      refine xg_0_13 (idx := 234) 46 C (by decide +kernel) rfl q_571 ?_
      refine zr_iconst (v := 1) 1 47 C (by decide +kernel) rfl rfl ?_
      refine zr_isub 48 C (by decide +kernel) rfl ?_
      obtain rfl := Option.some.inj hf
      exact zr_iret C (by decide +kernel) T
    · refine zr_bipush (v := (-4)) (-4) 21 C (by decide +kernel) rfl rfl ?_
      obtain rfl := Option.some.inj hf
      exact zr_iret C (by decide +kernel) T
  · refine zr_bipush (v := (-2)) (-2) 9 C (by decide +kernel) rfl rfl ?_
    obtain rfl := Option.some.inj hf
    exact zr_iret C (by decide +kernel) T
theorem y_X_well : zY yX10_well cX10_well 2 (some .int) 1 := ⟨q_842, q_72, by decide +kernel, by decide +kernel, by decide +kernel⟩
theorem k_X_well {l : Launch} {d : zD} {F : zF} {h : Nat → Nat} {σ : zS} {lv : List (Option Value)} {pc : Nat} {own : String} {cc : ByteArray} {nL fr lo idx : Nat} {rest : List Value} {β : Type} {kf : Int32 → zS → Option β} {o2 : β} {ad av : Nat → Nat}  {p1 : Int32} (pc' : Nat) (C : zOk d F own cc nL fr lo) (E : zXe d ad av) (hd : decode cc pc = .ok (.invokevirtual idx, 3)) (hp : pc + 3 = pc') (hq : Cond.methodLink own idx yX10_well ∈ zW) (hm : 2 + 1 ≤ fr ∧ 8 + (2 + 11) + 42 ≤ lo) (hr : (rest.map fun v => v.category).sum ≤ 8) (hf : zbd (f_X_well p1 σ) kf = some o2) (K : ∀ (r : Int32) (σ' : zS), kf r σ' = some o2 → V l d F 0 0 (XW d h σ') lv pc' (.int r :: rest)) : V l d F 0 0 (XW d h σ) lv pc (.int p1 :: .ref (h 0) :: rest) := by
  obtain ⟨q, h1, h2⟩ := zbd_some hf
  exact zr_callV y_X_well ⟨q_840, q_841⟩ 0 rfl rfl (As := [.int p1]) (m_X_well E h1) rfl rfl pc' C hd hp hq hm hr (K _ _ h2)
/-! StepsBeyond.whyNot(IIII)I -/
def f_X_whyNot (p1 : Int32) (p2 : Int32) (p3 : Int32) (p4 : Int32) (σ : zS) : Option (Int32 × zS) :=
  zin p1 8 (zbd (f_X_measure_9 (σ.2 27 p1.toNatClampNeg) σ) fun _ σ1 =>
  zin p1 8 (zbd (f_Ar_holds_9 (σ1.2 26 p1.toNatClampNeg) σ1) fun r3 σ2 =>
  (if r3 = 0 then
  zin p1 8 (zbd (f_X_apart (σ2.2 26 p1.toNatClampNeg) p2 σ2) fun r7 σ6 =>
  (if 2 < r7 then
  some (1, σ6)
  else
  some (0, σ6)))
  else
  zbd (f_Ar_holds_9 p2 σ2) fun r5 σ4 =>
  (if r5 = 0 then
  some (2, σ4)
  else
  (if p3 ≤ p4 then
  some (0, σ4)
  else
  some (3, σ4))))))
set_option maxRecDepth 4000 in
theorem m_X_whyNot {l : Launch} {d : zD} {h : Nat → Nat} {out : Int32 × zS} {σ : zS} {ad av : Nat → Nat} {p1 : Int32} {p2 : Int32} {p3 : Int32} {p4 : Int32} (E : zXe d ad av) (hf : f_X_whyNot p1 p2 p3 p4 σ = some out) : zM l yX10_whyNot cX10_whyNot 5 (some .int) 5 115 d [.ref (h 0), .int p1, .int p2, .int p3, .int p4] (XW d h σ) (XW d h out.2) (some (.int out.1)) := by
  refine zM_of [some (.ref (h 0)), some (.int p1), some (.int p2), some (.int p3), some (.int p4)] (by decide +kernel) rfl (Nat.le_of_ble_eq_true rfl) (fun F C T => ?_)
  unfold f_X_whyNot at hf
  refine zr_aload_n 0 1 C (by decide +kernel) rfl rfl ?_
  refine zr_aload_n 0 2 C (by decide +kernel) rfl rfl ?_
  refine xg_0_8 (idx := 68) 5 C (by decide +kernel) rfl q_566 ?_
  refine zr_aload_n 0 6 C (by decide +kernel) rfl rfl ?_
  refine xg_0_5 (idx := 47) 9 C (by decide +kernel) rfl q_563 ?_
  refine xg_6_1 (idx := 228) 12 C (by decide +kernel) rfl q_263 ?_
  refine zr_iload_n 1 13 C (by decide +kernel) rfl rfl ?_
  refine xl_27 14 C (by decide +kernel) rfl hf (fun hf => ?_)
  refine k_X_measure_9 (idx := 201) 17 C E (by decide +kernel) rfl q_728 (zb2 rfl rfl) (Nat.le_of_ble_eq_true rfl) hf (fun _ σ1 hf => ?_)
  refine zr_aload_n 0 18 C (by decide +kernel) rfl rfl ?_
  refine xg_0_8 (idx := 68) 21 C (by decide +kernel) rfl q_566 ?_
  refine zr_aload_n 0 22 C (by decide +kernel) rfl rfl ?_
  refine xg_0_5 (idx := 47) 25 C (by decide +kernel) rfl q_563 ?_
  refine xg_6_0 (idx := 225) 28 C (by decide +kernel) rfl q_261 ?_
  refine zr_iload_n 1 29 C (by decide +kernel) rfl rfl ?_
  refine xl_26 30 C (by decide +kernel) rfl hf (fun hf => ?_)
  refine k_Ar_holds_9 (idx := 205) 33 C E (by decide +kernel) rfl q_757 (zb2 rfl rfl) (Nat.le_of_ble_eq_true rfl) hf (fun r3 σ2 hf => ?_)
  refine zr_if_ne (off := 26) 59 36 C (by decide +kernel) (by decide) rfl hf (fun hf => ?_) (fun hf => ?_)
  · refine zr_aload_n 0 60 C (by decide +kernel) rfl rfl ?_
    refine xg_0_8 (idx := 68) 63 C (by decide +kernel) rfl q_566 ?_
    refine zr_iload_n 2 64 C (by decide +kernel) rfl rfl ?_
    refine k_Ar_holds_9 (idx := 205) 67 C E (by decide +kernel) rfl q_757 (zb2 rfl rfl) (Nat.le_of_ble_eq_true rfl) hf (fun r5 σ4 hf => ?_)
    refine zr_if_ne (off := 5) 72 70 C (by decide +kernel) (by decide) rfl hf (fun hf => ?_) (fun hf => ?_)
    · refine zr_iload_n 3 73 C (by decide +kernel) rfl rfl ?_
      refine zr_iload 4 75 C (by decide +kernel) rfl rfl ?_
      refine zr_icmp_le (off := 7) 82 78 C (by decide +kernel) (by decide) rfl hf (fun hf => ?_) (fun hf => ?_)
      · refine zr_iconst (v := 0) 0 83 C (by decide +kernel) rfl rfl ?_
        obtain rfl := Option.some.inj hf
        exact zr_iret C (by decide +kernel) T
      · refine zr_iconst (v := 3) 3 79 C (by decide +kernel) rfl rfl ?_
        refine zr_goto (off := 4) 83 C (by decide +kernel) (by decide) ?_
        obtain rfl := Option.some.inj hf
        exact zr_iret C (by decide +kernel) T
    · refine zr_iconst (v := 2) 2 71 C (by decide +kernel) rfl rfl ?_
      obtain rfl := Option.some.inj hf
      exact zr_iret C (by decide +kernel) T
  · refine zr_aload_n 0 37 C (by decide +kernel) rfl rfl ?_
    refine xg_0_5 (idx := 47) 40 C (by decide +kernel) rfl q_563 ?_
    refine xg_6_0 (idx := 225) 43 C (by decide +kernel) rfl q_261 ?_
    refine zr_iload_n 1 44 C (by decide +kernel) rfl rfl ?_
    refine xl_26 45 C (by decide +kernel) rfl hf (fun hf => ?_)
    refine zr_iload_n 2 46 C (by decide +kernel) rfl rfl ?_
    refine k_X_apart (idx := 331) 49 C E (by decide +kernel) rfl q_851 (zb2 rfl rfl) (Nat.le_of_ble_eq_true rfl) hf (fun r7 σ6 hf => ?_)
    refine zr_iconst (v := 2) 2 50 C (by decide +kernel) rfl rfl ?_
    refine zr_icmp_gt (off := 7) 57 53 C (by decide +kernel) (by decide) rfl hf (fun hf => ?_) (fun hf => ?_)
    · refine zr_iconst (v := 1) 1 58 C (by decide +kernel) rfl rfl ?_
      obtain rfl := Option.some.inj hf
      exact zr_iret C (by decide +kernel) T
    · refine zr_iconst (v := 0) 0 54 C (by decide +kernel) rfl rfl ?_
      refine zr_goto (off := 4) 58 C (by decide +kernel) (by decide) ?_
      obtain rfl := Option.some.inj hf
      exact zr_iret C (by decide +kernel) T
theorem y_X_whyNot : zY yX10_whyNot cX10_whyNot 5 (some .int) 4 := ⟨q_850, q_72, by decide +kernel, by decide +kernel, by decide +kernel⟩
theorem k_X_whyNot {l : Launch} {d : zD} {F : zF} {h : Nat → Nat} {σ : zS} {lv : List (Option Value)} {pc : Nat} {own : String} {cc : ByteArray} {nL fr lo idx : Nat} {rest : List Value} {β : Type} {kf : Int32 → zS → Option β} {o2 : β} {ad av : Nat → Nat}  {p1 : Int32} {p2 : Int32} {p3 : Int32} {p4 : Int32} (pc' : Nat) (C : zOk d F own cc nL fr lo) (E : zXe d ad av) (hd : decode cc pc = .ok (.invokevirtual idx, 3)) (hp : pc + 3 = pc') (hq : Cond.methodLink own idx yX10_whyNot ∈ zW) (hm : 5 + 1 ≤ fr ∧ 8 + (5 + 11) + 115 ≤ lo) (hr : (rest.map fun v => v.category).sum ≤ 8) (hf : zbd (f_X_whyNot p1 p2 p3 p4 σ) kf = some o2) (K : ∀ (r : Int32) (σ' : zS), kf r σ' = some o2 → V l d F 0 0 (XW d h σ') lv pc' (.int r :: rest)) : V l d F 0 0 (XW d h σ) lv pc (.int p4 :: .int p3 :: .int p2 :: .int p1 :: .ref (h 0) :: rest) := by
  obtain ⟨q, h1, h2⟩ := zbd_some hf
  exact zr_callV y_X_whyNot ⟨q_849, q_28⟩ 0 rfl rfl (As := [.int p1, .int p2, .int p3, .int p4]) (m_X_whyNot E h1) rfl rfl pc' C hd hp hq hm hr (K _ _ h2)
/-! StepsBeyond.may(III)I -/
def f_X_may (p1 : Int32) (p2 : Int32) (p3 : Int32) (σ : zS) : Option (Int32 × zS) :=
  zbd (f_Pe_knows p1 σ) fun r2 σ1 =>
  (if r2 = 0 then
  some (-5, σ1)
  else
  zbd (f_X_isPlace p2 σ1) fun r4 σ3 =>
  (if r4 = 0 then
  some (-7, σ3)
  else
  zbd (f_X_isFrom p3 0 9999 σ3) fun r6 σ5 =>
  (if r6 = 0 then
  some (-7, σ5)
  else
  zbd (f_La_walkFrom_12 p2 σ5) fun _ σ7 =>
  zin p1 8 (zin (σ7.2 26 p1.toNatClampNeg) 1600 (zbd (f_X_whyNot p1 p2 (σ7.2 12 (σ7.2 26 p1.toNatClampNeg).toNatClampNeg) p3 σ7) fun r9 σ8 =>
  some (r9, σ8))))))
set_option maxRecDepth 4000 in
theorem m_X_may {l : Launch} {d : zD} {h : Nat → Nat} {out : Int32 × zS} {σ : zS} {ad av : Nat → Nat} {p1 : Int32} {p2 : Int32} {p3 : Int32} (E : zXe d ad av) (hf : f_X_may p1 p2 p3 σ = some out) : zM l yX10_may cX10_may 4 (some .int) 6 139 d [.ref (h 0), .int p1, .int p2, .int p3] (XW d h σ) (XW d h out.2) (some (.int out.1)) := by
  refine zM_of [some (.ref (h 0)), some (.int p1), some (.int p2), some (.int p3)] (by decide +kernel) rfl (Nat.le_of_ble_eq_true rfl) (fun F C T => ?_)
  unfold f_X_may at hf
  refine zr_aload_n 0 1 C (by decide +kernel) rfl rfl ?_
  refine xg_0_5 (idx := 47) 4 C (by decide +kernel) rfl q_563 ?_
  refine zr_iload_n 1 5 C (by decide +kernel) rfl rfl ?_
  refine k_Pe_knows (idx := 224) 8 C E (by decide +kernel) rfl q_827 (zb2 rfl rfl) (Nat.le_of_ble_eq_true rfl) hf (fun r2 σ1 hf => ?_)
  refine zr_if_ne (off := 6) 14 11 C (by decide +kernel) (by decide) rfl hf (fun hf => ?_) (fun hf => ?_)
  · refine zr_iload_n 2 15 C (by decide +kernel) rfl rfl ?_
    refine k_X_isPlace (idx := 123) 18 C E (by decide +kernel) rfl q_612 (zb2 rfl rfl) (Nat.le_of_ble_eq_true rfl) hf (fun r4 σ3 hf => ?_)
    refine zr_if_eq (off := 14) 32 21 C (by decide +kernel) (by decide) rfl hf (fun hf => ?_) (fun hf => ?_)
    · refine zr_bipush (v := (-7)) (-7) 34 C (by decide +kernel) rfl rfl ?_
      obtain rfl := Option.some.inj hf
      exact zr_iret C (by decide +kernel) T
    · refine zr_iload_n 3 22 C (by decide +kernel) rfl rfl ?_
      refine zr_iconst (v := 0) 0 23 C (by decide +kernel) rfl rfl ?_
      refine zr_sipush (v := 9999) 9999 26 C (by decide +kernel) rfl rfl ?_
      refine k_X_isFrom (idx := 159) 29 C E (by decide +kernel) rfl q_615 (zb2 rfl rfl) (Nat.le_of_ble_eq_true rfl) hf (fun r6 σ5 hf => ?_)
      refine zr_if_ne (off := 6) 35 32 C (by decide +kernel) (by decide) rfl hf (fun hf => ?_) (fun hf => ?_)
      · refine zr_aload_n 0 36 C (by decide +kernel) rfl rfl ?_
        refine xg_0_3 (idx := 33) 39 C (by decide +kernel) rfl q_561 ?_
        refine zr_iload_n 2 40 C (by decide +kernel) rfl rfl ?_
        refine zr_aload_n 0 41 C (by decide +kernel) rfl rfl ?_
        refine xg_0_10 (idx := 75) 44 C (by decide +kernel) rfl q_568 ?_
        refine k_La_walkFrom_12 (idx := 219) 47 C E (by decide +kernel) rfl q_798 (zb2 rfl rfl) (Nat.le_of_ble_eq_true rfl) hf (fun _ σ7 hf => ?_)
        refine zr_aload_n 0 48 C (by decide +kernel) rfl rfl ?_
        refine zr_iload_n 1 49 C (by decide +kernel) rfl rfl ?_
        refine zr_iload_n 2 50 C (by decide +kernel) rfl rfl ?_
        refine zr_aload_n 0 51 C (by decide +kernel) rfl rfl ?_
        refine xg_0_10 (idx := 75) 54 C (by decide +kernel) rfl q_568 ?_
        refine zr_aload_n 0 55 C (by decide +kernel) rfl rfl ?_
        refine xg_0_5 (idx := 47) 58 C (by decide +kernel) rfl q_563 ?_
        refine xg_6_0 (idx := 225) 61 C (by decide +kernel) rfl q_261 ?_
        refine zr_iload_n 1 62 C (by decide +kernel) rfl rfl ?_
        refine xl_26 63 C (by decide +kernel) rfl hf (fun hf => ?_)
        refine xl_12 64 C (by decide +kernel) rfl hf (fun hf => ?_)
        refine zr_iload_n 3 65 C (by decide +kernel) rfl rfl ?_
        refine k_X_whyNot (idx := 237) 68 C E (by decide +kernel) rfl q_847 (zb2 rfl rfl) (Nat.le_of_ble_eq_true rfl) hf (fun r9 σ8 hf => ?_)
        obtain rfl := Option.some.inj hf
        exact zr_iret C (by decide +kernel) T
      · refine zr_bipush (v := (-7)) (-7) 34 C (by decide +kernel) rfl rfl ?_
        obtain rfl := Option.some.inj hf
        exact zr_iret C (by decide +kernel) T
  · refine zr_bipush (v := (-5)) (-5) 13 C (by decide +kernel) rfl rfl ?_
    obtain rfl := Option.some.inj hf
    exact zr_iret C (by decide +kernel) T
theorem y_X_may : zY yX10_may cX10_may 4 (some .int) 3 := ⟨q_846, q_72, by decide +kernel, by decide +kernel, by decide +kernel⟩
theorem k_X_may {l : Launch} {d : zD} {F : zF} {h : Nat → Nat} {σ : zS} {lv : List (Option Value)} {pc : Nat} {own : String} {cc : ByteArray} {nL fr lo idx : Nat} {rest : List Value} {β : Type} {kf : Int32 → zS → Option β} {o2 : β} {ad av : Nat → Nat}  {p1 : Int32} {p2 : Int32} {p3 : Int32} (pc' : Nat) (C : zOk d F own cc nL fr lo) (E : zXe d ad av) (hd : decode cc pc = .ok (.invokevirtual idx, 3)) (hp : pc + 3 = pc') (hq : Cond.methodLink own idx yX10_may ∈ zW) (hm : 6 + 1 ≤ fr ∧ 8 + (4 + 11) + 139 ≤ lo) (hr : (rest.map fun v => v.category).sum ≤ 8) (hf : zbd (f_X_may p1 p2 p3 σ) kf = some o2) (K : ∀ (r : Int32) (σ' : zS), kf r σ' = some o2 → V l d F 0 0 (XW d h σ') lv pc' (.int r :: rest)) : V l d F 0 0 (XW d h σ) lv pc (.int p3 :: .int p2 :: .int p1 :: .ref (h 0) :: rest) := by
  obtain ⟨q, h1, h2⟩ := zbd_some hf
  exact zr_callV y_X_may ⟨q_844, q_845⟩ 0 rfl rfl (As := [.int p1, .int p2, .int p3]) (m_X_may E h1) rfl rfl pc' C hd hp hq hm hr (K _ _ h2)
/-! StepsBeyond.wells(II)I -/
def f_X_wells_96 (k53 : Int32 → Int32 → Int32 → Int32 → zS → Option (Int32 × zS)) (x1 : Int32) (x2 : Int32) (x3 : Int32) (x4 : Int32) (σ : zS) : Option (Int32 × zS) :=
  k53 x1 x2 x3 (x4 + 1) σ
set_option maxRecDepth 4000 in
theorem w_X_wells_96 {l : Launch} {d : zD} {F : zF} {h : Nat → Nat} {out : Int32 × zS} {ad av : Nat → Nat}  {k53 : Int32 → Int32 → Int32 → Int32 → zS → Option (Int32 × zS)} (C : zOk d F RX10 cX10_wells 6 6 139) (T : zRt d F (some .int) (some (.int out.1)) (XW d h out.2)) (E : zXe d ad av) (H53 : ∀ (x1 : Int32) (x2 : Int32) (x3 : Int32) (x4 : Int32) (σ : zS), k53 x1 x2 x3 x4 σ = some out → V l d F 0 0 (XW d h σ) [some (.ref (h 0)), some (.int x1), some (.int x2), some (.int x3), some (.int x4), none] 53 []) (x1 : Int32) (x2 : Int32) (x3 : Int32) (x4 : Int32) (σ : zS) (hf : f_X_wells_96 k53 x1 x2 x3 x4 σ = some out) : V l d F 0 0 (XW d h σ) [some (.ref (h 0)), some (.int x1), some (.int x2), some (.int x3), some (.int x4), none] 96 [] := by
  unfold f_X_wells_96 at hf
  refine zr_iinc (j := 1) 4 [some (.ref (h 0)), some (.int x1), some (.int x2), some (.int x3), some (.int (x4 + 1)), none] 99 C (by decide +kernel) rfl rfl rfl (by decide) rfl rfl ?_
  refine zr_goto (off := -46) 53 C (by decide +kernel) (by decide) ?_
  exact H53 _ _ _ _ _ hf
def f_X_wells_53b (k53 : Int32 → Int32 → Int32 → Int32 → zS → Option (Int32 × zS)) (x1 : Int32) (x2 : Int32) (x3 : Int32) (x4 : Int32) (σ : zS) : Option (Int32 × zS) :=
  (if (σ.1 13) ≤ x4 then
  some (x3, σ)
  else
  zin x4 10 (zlt (σ.2 14 x4.toNatClampNeg) fun v1 => 
  zin v1 1600 (zbd (f_X_whyNot x1 v1 (σ.2 12 v1.toNatClampNeg) x2 σ) fun r3 σ2 =>
  (if r3 = 0 then
  zlt (x3 ||| (zshl 1 x4)) fun v4 => 
  f_X_wells_96 k53 x1 x2 v4 x4 σ2
  else
  f_X_wells_96 k53 x1 x2 x3 x4 σ2))))
set_option maxRecDepth 4000 in
theorem w_X_wells_53b {l : Launch} {d : zD} {F : zF} {h : Nat → Nat} {out : Int32 × zS} {ad av : Nat → Nat}  {k53 : Int32 → Int32 → Int32 → Int32 → zS → Option (Int32 × zS)} (C : zOk d F RX10 cX10_wells 6 6 139) (T : zRt d F (some .int) (some (.int out.1)) (XW d h out.2)) (E : zXe d ad av) (H53 : ∀ (x1 : Int32) (x2 : Int32) (x3 : Int32) (x4 : Int32) (σ : zS), k53 x1 x2 x3 x4 σ = some out → V l d F 0 0 (XW d h σ) [some (.ref (h 0)), some (.int x1), some (.int x2), some (.int x3), some (.int x4), none] 53 []) (x1 : Int32) (x2 : Int32) (x3 : Int32) (x4 : Int32) (σ : zS) (hf : f_X_wells_53b k53 x1 x2 x3 x4 σ = some out) : V l d F 0 0 (XW d h σ) [some (.ref (h 0)), some (.int x1), some (.int x2), some (.int x3), some (.int x4), none] 53 [] := by
  unfold f_X_wells_53b at hf
  refine zr_iload 4 55 C (by decide +kernel) rfl rfl ?_
  refine zr_aload_n 0 56 C (by decide +kernel) rfl rfl ?_
  refine xg_0_13 (idx := 234) 59 C (by decide +kernel) rfl q_571 ?_
  refine zr_icmp_ge (off := 43) 102 62 C (by decide +kernel) (by decide) rfl hf (fun hf => ?_) (fun hf => ?_)
  · refine zr_iload_n 3 103 C (by decide +kernel) rfl rfl ?_
    obtain rfl := Option.some.inj hf
    exact zr_iret C (by decide +kernel) T
  · refine zr_aload_n 0 63 C (by decide +kernel) rfl rfl ?_
    refine xg_0_12 (idx := 82) 66 C (by decide +kernel) rfl q_570 ?_
    refine zr_iload 4 68 C (by decide +kernel) rfl rfl ?_
    refine xl_14 69 C (by decide +kernel) rfl hf (fun hf => ?_)
    refine zr_name hf (fun v1 hf => ?_)
    refine zr_istore 5 [some (.ref (h 0)), some (.int x1), some (.int x2), some (.int x3), some (.int x4), some (.int v1)] 71 C (by decide +kernel) rfl (by decide) rfl rfl ?_
    refine zr_aload_n 0 72 C (by decide +kernel) rfl rfl ?_
    refine zr_iload_n 1 73 C (by decide +kernel) rfl rfl ?_
    refine zr_iload 5 75 C (by decide +kernel) rfl rfl ?_
    refine zr_aload_n 0 76 C (by decide +kernel) rfl rfl ?_
    refine xg_0_10 (idx := 75) 79 C (by decide +kernel) rfl q_568 ?_
    refine zr_iload 5 81 C (by decide +kernel) rfl rfl ?_
    refine xl_12 82 C (by decide +kernel) rfl hf (fun hf => ?_)
    refine zr_iload_n 2 83 C (by decide +kernel) rfl rfl ?_
    refine k_X_whyNot (idx := 237) 86 C E (by decide +kernel) rfl q_847 (zb2 rfl rfl) (Nat.le_of_ble_eq_true rfl) hf (fun r3 σ2 hf => ?_)
    refine zr_if_ne (off := 10) 96 89 C (by decide +kernel) (by decide) rfl hf (fun hf => ?_) (fun hf => ?_)
    · refine zr_less (zA (zA (zA (zA (zA (zN zE)))))) ?_
      exact w_X_wells_96 C T E H53 _ _ _ _ _ hf
    · refine zr_iload_n 3 90 C (by decide +kernel) rfl rfl ?_
      refine zr_iconst (v := 1) 1 91 C (by decide +kernel) rfl rfl ?_
      refine zr_iload 4 93 C (by decide +kernel) rfl rfl ?_
      refine zr_ishl 94 C (by decide +kernel) rfl ?_
      refine zr_ior 95 C (by decide +kernel) rfl ?_
      refine zr_name hf (fun v4 hf => ?_)
      refine zr_istore_n 3 [some (.ref (h 0)), some (.int x1), some (.int x2), some (.int v4), some (.int x4), some (.int v1)] 96 C (by decide +kernel) rfl (by decide) rfl rfl ?_
      refine zr_less (zA (zA (zA (zA (zA (zN zE)))))) ?_
      exact w_X_wells_96 C T E H53 _ _ _ _ _ hf
def f_X_wells_53  : Nat → Int32 → Int32 → Int32 → Int32 → zS → Option (Int32 × zS)
  | 0, _, _, _, _, _ => none
  | n + 1, x1, x2, x3, x4,  σ => f_X_wells_53b (fun x1 x2 x3 x4 σ => f_X_wells_53  n x1 x2 x3 x4 σ) x1 x2 x3 x4 σ
theorem w_X_wells_53 {l : Launch} {d : zD} {F : zF} {h : Nat → Nat} {out : Int32 × zS} {ad av : Nat → Nat}   (C : zOk d F RX10 cX10_wells 6 6 139) (T : zRt d F (some .int) (some (.int out.1)) (XW d h out.2)) (E : zXe d ad av)  : ∀ (n : Nat) (x1 : Int32) (x2 : Int32) (x3 : Int32) (x4 : Int32) (σ : zS), f_X_wells_53  n x1 x2 x3 x4 σ = some out → V l d F 0 0 (XW d h σ) [some (.ref (h 0)), some (.int x1), some (.int x2), some (.int x3), some (.int x4), none] 53 [] := by
  intro n
  induction n with
  | zero =>
    intro x1 x2 x3 x4 σ hf
    cases hf
  | succ n ih =>
    intro x1 x2 x3 x4 σ hf
    exact w_X_wells_53b C T E ih x1 x2 x3 x4 σ hf
def f_X_wells (p1 : Int32) (p2 : Int32) (σ : zS) : Option (Int32 × zS) :=
  zbd (f_Pe_knows p1 σ) fun r2 σ1 =>
  (if r2 = 0 then
  some (-5, σ1)
  else
  zbd (f_X_isFrom p2 0 9999 σ1) fun r4 σ3 =>
  (if r4 = 0 then
  some (-7, σ3)
  else
  zin p1 8 (zbd (f_La_walkFrom_12 (σ3.2 26 p1.toNatClampNeg) σ3) fun _ σ5 =>
  f_X_wells_53 zfu p1 p2 0 0 σ5)))
set_option maxRecDepth 4000 in
theorem m_X_wells {l : Launch} {d : zD} {h : Nat → Nat} {out : Int32 × zS} {σ : zS} {ad av : Nat → Nat} {p1 : Int32} {p2 : Int32} (E : zXe d ad av) (hf : f_X_wells p1 p2 σ = some out) : zM l yX10_wells cX10_wells 6 (some .int) 6 139 d [.ref (h 0), .int p1, .int p2] (XW d h σ) (XW d h out.2) (some (.int out.1)) := by
  refine zM_of [some (.ref (h 0)), some (.int p1), some (.int p2), none, none, none] (by decide +kernel) rfl (Nat.le_of_ble_eq_true rfl) (fun F C T => ?_)
  unfold f_X_wells at hf
  refine zr_aload_n 0 1 C (by decide +kernel) rfl rfl ?_
  refine xg_0_5 (idx := 47) 4 C (by decide +kernel) rfl q_563 ?_
  refine zr_iload_n 1 5 C (by decide +kernel) rfl rfl ?_
  refine k_Pe_knows (idx := 224) 8 C E (by decide +kernel) rfl q_827 (zb2 rfl rfl) (Nat.le_of_ble_eq_true rfl) hf (fun r2 σ1 hf => ?_)
  refine zr_if_ne (off := 6) 14 11 C (by decide +kernel) (by decide) rfl hf (fun hf => ?_) (fun hf => ?_)
  · refine zr_iload_n 2 15 C (by decide +kernel) rfl rfl ?_
    refine zr_iconst (v := 0) 0 16 C (by decide +kernel) rfl rfl ?_
    refine zr_sipush (v := 9999) 9999 19 C (by decide +kernel) rfl rfl ?_
    refine k_X_isFrom (idx := 159) 22 C E (by decide +kernel) rfl q_615 (zb2 rfl rfl) (Nat.le_of_ble_eq_true rfl) hf (fun r4 σ3 hf => ?_)
    refine zr_if_ne (off := 6) 28 25 C (by decide +kernel) (by decide) rfl hf (fun hf => ?_) (fun hf => ?_)
    · refine zr_aload_n 0 29 C (by decide +kernel) rfl rfl ?_
      refine xg_0_3 (idx := 33) 32 C (by decide +kernel) rfl q_561 ?_
      refine zr_aload_n 0 33 C (by decide +kernel) rfl rfl ?_
      refine xg_0_5 (idx := 47) 36 C (by decide +kernel) rfl q_563 ?_
      refine xg_6_0 (idx := 225) 39 C (by decide +kernel) rfl q_261 ?_
      refine zr_iload_n 1 40 C (by decide +kernel) rfl rfl ?_
      refine xl_26 41 C (by decide +kernel) rfl hf (fun hf => ?_)
      refine zr_aload_n 0 42 C (by decide +kernel) rfl rfl ?_
      refine xg_0_10 (idx := 75) 45 C (by decide +kernel) rfl q_568 ?_
      refine k_La_walkFrom_12 (idx := 219) 48 C E (by decide +kernel) rfl q_798 (zb2 rfl rfl) (Nat.le_of_ble_eq_true rfl) hf (fun _ σ5 hf => ?_)
      refine zr_iconst (v := 0) 0 49 C (by decide +kernel) rfl rfl ?_
      refine zr_istore_n 3 [some (.ref (h 0)), some (.int p1), some (.int p2), some (.int 0), none, none] 50 C (by decide +kernel) rfl (by decide) rfl rfl ?_
      refine zr_iconst (v := 0) 0 51 C (by decide +kernel) rfl rfl ?_
      refine zr_istore 4 [some (.ref (h 0)), some (.int p1), some (.int p2), some (.int 0), some (.int 0), none] 53 C (by decide +kernel) rfl (by decide) rfl rfl ?_
      exact w_X_wells_53 C T E zfu _ _ _ _ _ hf
    · refine zr_bipush (v := (-7)) (-7) 27 C (by decide +kernel) rfl rfl ?_
      obtain rfl := Option.some.inj hf
      exact zr_iret C (by decide +kernel) T
  · refine zr_bipush (v := (-5)) (-5) 13 C (by decide +kernel) rfl rfl ?_
    obtain rfl := Option.some.inj hf
    exact zr_iret C (by decide +kernel) T
theorem y_X_wells : zY yX10_wells cX10_wells 6 (some .int) 2 := ⟨q_855, q_72, by decide +kernel, by decide +kernel, by decide +kernel⟩
theorem k_X_wells {l : Launch} {d : zD} {F : zF} {h : Nat → Nat} {σ : zS} {lv : List (Option Value)} {pc : Nat} {own : String} {cc : ByteArray} {nL fr lo idx : Nat} {rest : List Value} {β : Type} {kf : Int32 → zS → Option β} {o2 : β} {ad av : Nat → Nat}  {p1 : Int32} {p2 : Int32} (pc' : Nat) (C : zOk d F own cc nL fr lo) (E : zXe d ad av) (hd : decode cc pc = .ok (.invokevirtual idx, 3)) (hp : pc + 3 = pc') (hq : Cond.methodLink own idx yX10_wells ∈ zW) (hm : 6 + 1 ≤ fr ∧ 8 + (6 + 11) + 139 ≤ lo) (hr : (rest.map fun v => v.category).sum ≤ 8) (hf : zbd (f_X_wells p1 p2 σ) kf = some o2) (K : ∀ (r : Int32) (σ' : zS), kf r σ' = some o2 → V l d F 0 0 (XW d h σ') lv pc' (.int r :: rest)) : V l d F 0 0 (XW d h σ) lv pc (.int p2 :: .int p1 :: .ref (h 0) :: rest) := by
  obtain ⟨q, h1, h2⟩ := zbd_some hf
  exact zr_callV y_X_wells ⟨q_853, q_854⟩ 0 rfl rfl (As := [.int p1, .int p2]) (m_X_wells E h1) rfl rfl pc' C hd hp hq hm hr (K _ _ h2)
/-! StepsBeyond.who(II)I -/
def f_X_who_83 (k38 : Int32 → Int32 → Int32 → Int32 → zS → Option (Int32 × zS)) (x1 : Int32) (x2 : Int32) (x3 : Int32) (x4 : Int32) (σ : zS) : Option (Int32 × zS) :=
  k38 x1 x2 x3 (x4 + 1) σ
set_option maxRecDepth 4000 in
theorem w_X_who_83 {l : Launch} {d : zD} {F : zF} {h : Nat → Nat} {out : Int32 × zS} {ad av : Nat → Nat}  {k38 : Int32 → Int32 → Int32 → Int32 → zS → Option (Int32 × zS)} (C : zOk d F RX10 cX10_who 5 6 139) (T : zRt d F (some .int) (some (.int out.1)) (XW d h out.2)) (E : zXe d ad av) (H38 : ∀ (x1 : Int32) (x2 : Int32) (x3 : Int32) (x4 : Int32) (σ : zS), k38 x1 x2 x3 x4 σ = some out → V l d F 0 0 (XW d h σ) [some (.ref (h 0)), some (.int x1), some (.int x2), some (.int x3), some (.int x4)] 38 []) (x1 : Int32) (x2 : Int32) (x3 : Int32) (x4 : Int32) (σ : zS) (hf : f_X_who_83 k38 x1 x2 x3 x4 σ = some out) : V l d F 0 0 (XW d h σ) [some (.ref (h 0)), some (.int x1), some (.int x2), some (.int x3), some (.int x4)] 83 [] := by
  unfold f_X_who_83 at hf
  refine zr_iinc (j := 1) 4 [some (.ref (h 0)), some (.int x1), some (.int x2), some (.int x3), some (.int (x4 + 1))] 86 C (by decide +kernel) rfl rfl rfl (by decide) rfl rfl ?_
  refine zr_goto (off := -48) 38 C (by decide +kernel) (by decide) ?_
  exact H38 _ _ _ _ _ hf
def f_X_who_38b (k38 : Int32 → Int32 → Int32 → Int32 → zS → Option (Int32 × zS)) (x1 : Int32) (x2 : Int32) (x3 : Int32) (x4 : Int32) (σ : zS) : Option (Int32 × zS) :=
  (if (σ.1 602) ≤ x4 then
  some (x3, σ)
  else
  zin x4 8 (zin (σ.2 26 x4.toNatClampNeg) 1600 (zbd (f_X_whyNot x4 x1 (σ.2 12 (σ.2 26 x4.toNatClampNeg).toNatClampNeg) x2 σ) fun r2 σ1 =>
  (if r2 = 0 then
  zlt (x3 ||| (zshl 1 x4)) fun v3 => 
  f_X_who_83 k38 x1 x2 v3 x4 σ1
  else
  f_X_who_83 k38 x1 x2 x3 x4 σ1))))
set_option maxRecDepth 4000 in
theorem w_X_who_38b {l : Launch} {d : zD} {F : zF} {h : Nat → Nat} {out : Int32 × zS} {ad av : Nat → Nat}  {k38 : Int32 → Int32 → Int32 → Int32 → zS → Option (Int32 × zS)} (C : zOk d F RX10 cX10_who 5 6 139) (T : zRt d F (some .int) (some (.int out.1)) (XW d h out.2)) (E : zXe d ad av) (H38 : ∀ (x1 : Int32) (x2 : Int32) (x3 : Int32) (x4 : Int32) (σ : zS), k38 x1 x2 x3 x4 σ = some out → V l d F 0 0 (XW d h σ) [some (.ref (h 0)), some (.int x1), some (.int x2), some (.int x3), some (.int x4)] 38 []) (x1 : Int32) (x2 : Int32) (x3 : Int32) (x4 : Int32) (σ : zS) (hf : f_X_who_38b k38 x1 x2 x3 x4 σ = some out) : V l d F 0 0 (XW d h σ) [some (.ref (h 0)), some (.int x1), some (.int x2), some (.int x3), some (.int x4)] 38 [] := by
  unfold f_X_who_38b at hf
  refine zr_iload 4 40 C (by decide +kernel) rfl rfl ?_
  refine zr_aload_n 0 41 C (by decide +kernel) rfl rfl ?_
  refine xg_0_5 (idx := 47) 44 C (by decide +kernel) rfl q_563 ?_
  refine xg_6_2 (idx := 241) 47 C (by decide +kernel) rfl q_265 ?_
  refine zr_icmp_ge (off := 42) 89 50 C (by decide +kernel) (by decide) rfl hf (fun hf => ?_) (fun hf => ?_)
  · refine zr_iload_n 3 90 C (by decide +kernel) rfl rfl ?_
    obtain rfl := Option.some.inj hf
    exact zr_iret C (by decide +kernel) T
  · refine zr_aload_n 0 51 C (by decide +kernel) rfl rfl ?_
    refine zr_iload 4 53 C (by decide +kernel) rfl rfl ?_
    refine zr_iload_n 1 54 C (by decide +kernel) rfl rfl ?_
    refine zr_aload_n 0 55 C (by decide +kernel) rfl rfl ?_
    refine xg_0_10 (idx := 75) 58 C (by decide +kernel) rfl q_568 ?_
    refine zr_aload_n 0 59 C (by decide +kernel) rfl rfl ?_
    refine xg_0_5 (idx := 47) 62 C (by decide +kernel) rfl q_563 ?_
    refine xg_6_0 (idx := 225) 65 C (by decide +kernel) rfl q_261 ?_
    refine zr_iload 4 67 C (by decide +kernel) rfl rfl ?_
    refine xl_26 68 C (by decide +kernel) rfl hf (fun hf => ?_)
    refine xl_12 69 C (by decide +kernel) rfl hf (fun hf => ?_)
    refine zr_iload_n 2 70 C (by decide +kernel) rfl rfl ?_
    refine k_X_whyNot (idx := 237) 73 C E (by decide +kernel) rfl q_847 (zb2 rfl rfl) (Nat.le_of_ble_eq_true rfl) hf (fun r2 σ1 hf => ?_)
    refine zr_if_ne (off := 10) 83 76 C (by decide +kernel) (by decide) rfl hf (fun hf => ?_) (fun hf => ?_)
    · exact w_X_who_83 C T E H38 _ _ _ _ _ hf
    · refine zr_iload_n 3 77 C (by decide +kernel) rfl rfl ?_
      refine zr_iconst (v := 1) 1 78 C (by decide +kernel) rfl rfl ?_
      refine zr_iload 4 80 C (by decide +kernel) rfl rfl ?_
      refine zr_ishl 81 C (by decide +kernel) rfl ?_
      refine zr_ior 82 C (by decide +kernel) rfl ?_
      refine zr_name hf (fun v3 hf => ?_)
      refine zr_istore_n 3 [some (.ref (h 0)), some (.int x1), some (.int x2), some (.int v3), some (.int x4)] 83 C (by decide +kernel) rfl (by decide) rfl rfl ?_
      exact w_X_who_83 C T E H38 _ _ _ _ _ hf
def f_X_who_38  : Nat → Int32 → Int32 → Int32 → Int32 → zS → Option (Int32 × zS)
  | 0, _, _, _, _, _ => none
  | n + 1, x1, x2, x3, x4,  σ => f_X_who_38b (fun x1 x2 x3 x4 σ => f_X_who_38  n x1 x2 x3 x4 σ) x1 x2 x3 x4 σ
theorem w_X_who_38 {l : Launch} {d : zD} {F : zF} {h : Nat → Nat} {out : Int32 × zS} {ad av : Nat → Nat}   (C : zOk d F RX10 cX10_who 5 6 139) (T : zRt d F (some .int) (some (.int out.1)) (XW d h out.2)) (E : zXe d ad av)  : ∀ (n : Nat) (x1 : Int32) (x2 : Int32) (x3 : Int32) (x4 : Int32) (σ : zS), f_X_who_38  n x1 x2 x3 x4 σ = some out → V l d F 0 0 (XW d h σ) [some (.ref (h 0)), some (.int x1), some (.int x2), some (.int x3), some (.int x4)] 38 [] := by
  intro n
  induction n with
  | zero =>
    intro x1 x2 x3 x4 σ hf
    cases hf
  | succ n ih =>
    intro x1 x2 x3 x4 σ hf
    exact w_X_who_38b C T E ih x1 x2 x3 x4 σ hf
def f_X_who (p1 : Int32) (p2 : Int32) (σ : zS) : Option (Int32 × zS) :=
  zbd (f_X_isPlace p1 σ) fun r2 σ1 =>
  (if r2 = 0 then
  some (-2, σ1)
  else
  zbd (f_X_isFrom p2 0 9999 σ1) fun r4 σ3 =>
  (if r4 = 0 then
  some (-2, σ3)
  else
  zbd (f_La_walkFrom_12 p1 σ3) fun _ σ5 =>
  f_X_who_38 zfu p1 p2 0 0 σ5))
set_option maxRecDepth 4000 in
theorem m_X_who {l : Launch} {d : zD} {h : Nat → Nat} {out : Int32 × zS} {σ : zS} {ad av : Nat → Nat} {p1 : Int32} {p2 : Int32} (E : zXe d ad av) (hf : f_X_who p1 p2 σ = some out) : zM l yX10_who cX10_who 5 (some .int) 6 139 d [.ref (h 0), .int p1, .int p2] (XW d h σ) (XW d h out.2) (some (.int out.1)) := by
  refine zM_of [some (.ref (h 0)), some (.int p1), some (.int p2), none, none] (by decide +kernel) rfl (Nat.le_of_ble_eq_true rfl) (fun F C T => ?_)
  unfold f_X_who at hf
  refine zr_iload_n 1 1 C (by decide +kernel) rfl rfl ?_
  refine k_X_isPlace (idx := 123) 4 C E (by decide +kernel) rfl q_612 (zb2 rfl rfl) (Nat.le_of_ble_eq_true rfl) hf (fun r2 σ1 hf => ?_)
  refine zr_if_eq (off := 14) 18 7 C (by decide +kernel) (by decide) rfl hf (fun hf => ?_) (fun hf => ?_)
  · refine zr_bipush (v := (-2)) (-2) 20 C (by decide +kernel) rfl rfl ?_
    obtain rfl := Option.some.inj hf
    exact zr_iret C (by decide +kernel) T
  · refine zr_iload_n 2 8 C (by decide +kernel) rfl rfl ?_
    refine zr_iconst (v := 0) 0 9 C (by decide +kernel) rfl rfl ?_
    refine zr_sipush (v := 9999) 9999 12 C (by decide +kernel) rfl rfl ?_
    refine k_X_isFrom (idx := 159) 15 C E (by decide +kernel) rfl q_615 (zb2 rfl rfl) (Nat.le_of_ble_eq_true rfl) hf (fun r4 σ3 hf => ?_)
    refine zr_if_ne (off := 6) 21 18 C (by decide +kernel) (by decide) rfl hf (fun hf => ?_) (fun hf => ?_)
    · refine zr_aload_n 0 22 C (by decide +kernel) rfl rfl ?_
      refine xg_0_3 (idx := 33) 25 C (by decide +kernel) rfl q_561 ?_
      refine zr_iload_n 1 26 C (by decide +kernel) rfl rfl ?_
      refine zr_aload_n 0 27 C (by decide +kernel) rfl rfl ?_
      refine xg_0_10 (idx := 75) 30 C (by decide +kernel) rfl q_568 ?_
      refine k_La_walkFrom_12 (idx := 219) 33 C E (by decide +kernel) rfl q_798 (zb2 rfl rfl) (Nat.le_of_ble_eq_true rfl) hf (fun _ σ5 hf => ?_)
      refine zr_iconst (v := 0) 0 34 C (by decide +kernel) rfl rfl ?_
      refine zr_istore_n 3 [some (.ref (h 0)), some (.int p1), some (.int p2), some (.int 0), none] 35 C (by decide +kernel) rfl (by decide) rfl rfl ?_
      refine zr_iconst (v := 0) 0 36 C (by decide +kernel) rfl rfl ?_
      refine zr_istore 4 [some (.ref (h 0)), some (.int p1), some (.int p2), some (.int 0), some (.int 0)] 38 C (by decide +kernel) rfl (by decide) rfl rfl ?_
      exact w_X_who_38 C T E zfu _ _ _ _ _ hf
    · refine zr_bipush (v := (-2)) (-2) 20 C (by decide +kernel) rfl rfl ?_
      obtain rfl := Option.some.inj hf
      exact zr_iret C (by decide +kernel) T
theorem y_X_who : zY yX10_who cX10_who 5 (some .int) 2 := ⟨q_859, q_72, by decide +kernel, by decide +kernel, by decide +kernel⟩
theorem k_X_who {l : Launch} {d : zD} {F : zF} {h : Nat → Nat} {σ : zS} {lv : List (Option Value)} {pc : Nat} {own : String} {cc : ByteArray} {nL fr lo idx : Nat} {rest : List Value} {β : Type} {kf : Int32 → zS → Option β} {o2 : β} {ad av : Nat → Nat}  {p1 : Int32} {p2 : Int32} (pc' : Nat) (C : zOk d F own cc nL fr lo) (E : zXe d ad av) (hd : decode cc pc = .ok (.invokevirtual idx, 3)) (hp : pc + 3 = pc') (hq : Cond.methodLink own idx yX10_who ∈ zW) (hm : 6 + 1 ≤ fr ∧ 8 + (5 + 11) + 139 ≤ lo) (hr : (rest.map fun v => v.category).sum ≤ 8) (hf : zbd (f_X_who p1 p2 σ) kf = some o2) (K : ∀ (r : Int32) (σ' : zS), kf r σ' = some o2 → V l d F 0 0 (XW d h σ') lv pc' (.int r :: rest)) : V l d F 0 0 (XW d h σ) lv pc (.int p2 :: .int p1 :: .ref (h 0) :: rest) := by
  obtain ⟨q, h1, h2⟩ := zbd_some hf
  exact zr_callV y_X_who ⟨q_857, q_858⟩ 0 rfl rfl (As := [.int p1, .int p2]) (m_X_who E h1) rfl rfl pc' C hd hp hq hm hr (K _ _ h2)
/-! StepsBeyond.meetingPlace(II)I -/
def f_X_meetingPlace_150 (k82 : Int32 → Int32 → Int32 → zS → Option (Int32 × zS)) (x3 : Int32) (x4 : Int32) (x5 : Int32) (σ : zS) : Option (Int32 × zS) :=
  k82 x3 x4 (x5 + 1) σ
set_option maxRecDepth 4000 in
theorem w_X_meetingPlace_150 {l : Launch} {d : zD} {F : zF} {h : Nat → Nat} {out : Int32 × zS} {ad av : Nat → Nat}  {k82 : Int32 → Int32 → Int32 → zS → Option (Int32 × zS)} (C : zOk d F RX10 cX10_meetingPlace 7 5 115) (T : zRt d F (some .int) (some (.int out.1)) (XW d h out.2)) (E : zXe d ad av) (H82 : ∀ (x3 : Int32) (x4 : Int32) (x5 : Int32) (σ : zS), k82 x3 x4 x5 σ = some out → V l d F 0 0 (XW d h σ) [some (.ref (h 0)), none, none, some (.int x3), some (.int x4), some (.int x5), none] 82 []) (x3 : Int32) (x4 : Int32) (x5 : Int32) (σ : zS) (hf : f_X_meetingPlace_150 k82 x3 x4 x5 σ = some out) : V l d F 0 0 (XW d h σ) [some (.ref (h 0)), none, none, some (.int x3), some (.int x4), some (.int x5), none] 150 [] := by
  unfold f_X_meetingPlace_150 at hf
  refine zr_iinc (j := 1) 5 [some (.ref (h 0)), none, none, some (.int x3), some (.int x4), some (.int (x5 + 1)), none] 153 C (by decide +kernel) rfl rfl rfl (by decide) rfl rfl ?_
  refine zr_goto (off := -71) 82 C (by decide +kernel) (by decide) ?_
  exact H82 _ _ _ _ hf
def f_X_meetingPlace_119 (k82 : Int32 → Int32 → Int32 → zS → Option (Int32 × zS)) (x3 : Int32) (x4 : Int32) (x5 : Int32) (x6 : Int32) (σ : zS) : Option (Int32 × zS) :=
  zbd (f_Ar_holds_9 x5 σ) fun r2 σ1 =>
  (if r2 = 0 then
  f_X_meetingPlace_150 k82 x3 x4 x5 σ1
  else
  zbd (f_Ar_holds_10 x5 σ1) fun r4 σ3 =>
  (if r4 = 0 then
  f_X_meetingPlace_150 k82 x3 x4 x5 σ3
  else
  f_X_meetingPlace_150 k82 x5 x6 x5 σ3))
set_option maxRecDepth 4000 in
theorem w_X_meetingPlace_119 {l : Launch} {d : zD} {F : zF} {h : Nat → Nat} {out : Int32 × zS} {ad av : Nat → Nat}  {k82 : Int32 → Int32 → Int32 → zS → Option (Int32 × zS)} (C : zOk d F RX10 cX10_meetingPlace 7 5 115) (T : zRt d F (some .int) (some (.int out.1)) (XW d h out.2)) (E : zXe d ad av) (H82 : ∀ (x3 : Int32) (x4 : Int32) (x5 : Int32) (σ : zS), k82 x3 x4 x5 σ = some out → V l d F 0 0 (XW d h σ) [some (.ref (h 0)), none, none, some (.int x3), some (.int x4), some (.int x5), none] 82 []) (x3 : Int32) (x4 : Int32) (x5 : Int32) (x6 : Int32) (σ : zS) (hf : f_X_meetingPlace_119 k82 x3 x4 x5 x6 σ = some out) : V l d F 0 0 (XW d h σ) [some (.ref (h 0)), none, none, some (.int x3), some (.int x4), some (.int x5), some (.int x6)] 119 [] := by
  unfold f_X_meetingPlace_119 at hf
  refine zr_aload_n 0 120 C (by decide +kernel) rfl rfl ?_
  refine xg_0_8 (idx := 68) 123 C (by decide +kernel) rfl q_566 ?_
  refine zr_iload 5 125 C (by decide +kernel) rfl rfl ?_
  refine k_Ar_holds_9 (idx := 205) 128 C E (by decide +kernel) rfl q_757 (zb2 rfl rfl) (Nat.le_of_ble_eq_true rfl) hf (fun r2 σ1 hf => ?_)
  refine zr_if_eq (off := 22) 150 131 C (by decide +kernel) (by decide) rfl hf (fun hf => ?_) (fun hf => ?_)
  · refine zr_less (zA (zN (zN (zA (zA (zA (zN zE))))))) ?_
    exact w_X_meetingPlace_150 C T E H82 _ _ _ _ hf
  · refine zr_aload_n 0 132 C (by decide +kernel) rfl rfl ?_
    refine xg_0_9 (idx := 72) 135 C (by decide +kernel) rfl q_567 ?_
    refine zr_iload 5 137 C (by decide +kernel) rfl rfl ?_
    refine k_Ar_holds_10 (idx := 205) 140 C E (by decide +kernel) rfl q_757 (zb2 rfl rfl) (Nat.le_of_ble_eq_true rfl) hf (fun r4 σ3 hf => ?_)
    refine zr_if_eq (off := 10) 150 143 C (by decide +kernel) (by decide) rfl hf (fun hf => ?_) (fun hf => ?_)
    · refine zr_less (zA (zN (zN (zA (zA (zA (zN zE))))))) ?_
      exact w_X_meetingPlace_150 C T E H82 _ _ _ _ hf
    · refine zr_iload 5 145 C (by decide +kernel) rfl rfl ?_
      refine zr_istore_n 3 [some (.ref (h 0)), none, none, some (.int x5), some (.int x4), some (.int x5), some (.int x6)] 146 C (by decide +kernel) rfl (by decide) rfl rfl ?_
      refine zr_iload 6 148 C (by decide +kernel) rfl rfl ?_
      refine zr_istore 4 [some (.ref (h 0)), none, none, some (.int x5), some (.int x6), some (.int x5), some (.int x6)] 150 C (by decide +kernel) rfl (by decide) rfl rfl ?_
      refine zr_less (zA (zN (zN (zA (zA (zA (zN zE))))))) ?_
      exact w_X_meetingPlace_150 C T E H82 _ _ _ _ hf
def f_X_meetingPlace_82b (k82 : Int32 → Int32 → Int32 → zS → Option (Int32 × zS)) (x3 : Int32) (x4 : Int32) (x5 : Int32) (σ : zS) : Option (Int32 × zS) :=
  (if 1600 ≤ x5 then
  some (x3, σ)
  else
  zin x5 1600 (zin x5 1600 (zlt ((σ.2 12 x5.toNatClampNeg) + (σ.2 13 x5.toNatClampNeg)) fun v1 => 
  (if x3 = (-1) then
  f_X_meetingPlace_119 k82 x3 x4 x5 v1 σ
  else
  (if x4 ≤ v1 then
  f_X_meetingPlace_150 k82 x3 x4 x5 σ
  else
  f_X_meetingPlace_119 k82 x3 x4 x5 v1 σ)))))
set_option maxRecDepth 4000 in
theorem w_X_meetingPlace_82b {l : Launch} {d : zD} {F : zF} {h : Nat → Nat} {out : Int32 × zS} {ad av : Nat → Nat}  {k82 : Int32 → Int32 → Int32 → zS → Option (Int32 × zS)} (C : zOk d F RX10 cX10_meetingPlace 7 5 115) (T : zRt d F (some .int) (some (.int out.1)) (XW d h out.2)) (E : zXe d ad av) (H82 : ∀ (x3 : Int32) (x4 : Int32) (x5 : Int32) (σ : zS), k82 x3 x4 x5 σ = some out → V l d F 0 0 (XW d h σ) [some (.ref (h 0)), none, none, some (.int x3), some (.int x4), some (.int x5), none] 82 []) (x3 : Int32) (x4 : Int32) (x5 : Int32) (σ : zS) (hf : f_X_meetingPlace_82b k82 x3 x4 x5 σ = some out) : V l d F 0 0 (XW d h σ) [some (.ref (h 0)), none, none, some (.int x3), some (.int x4), some (.int x5), none] 82 [] := by
  unfold f_X_meetingPlace_82b at hf
  refine zr_iload 5 84 C (by decide +kernel) rfl rfl ?_
  refine zr_sipush (v := 1600) 1600 87 C (by decide +kernel) rfl rfl ?_
  refine zr_icmp_ge (off := 69) 156 90 C (by decide +kernel) (by decide) rfl hf (fun hf => ?_) (fun hf => ?_)
  · refine zr_iload_n 3 157 C (by decide +kernel) rfl rfl ?_
    obtain rfl := Option.some.inj hf
    exact zr_iret C (by decide +kernel) T
  · refine zr_aload_n 0 91 C (by decide +kernel) rfl rfl ?_
    refine xg_0_10 (idx := 75) 94 C (by decide +kernel) rfl q_568 ?_
    refine zr_iload 5 96 C (by decide +kernel) rfl rfl ?_
    refine xl_12 97 C (by decide +kernel) rfl hf (fun hf => ?_)
    refine zr_aload_n 0 98 C (by decide +kernel) rfl rfl ?_
    refine xg_0_11 (idx := 79) 101 C (by decide +kernel) rfl q_569 ?_
    refine zr_iload 5 103 C (by decide +kernel) rfl rfl ?_
    refine xl_13 104 C (by decide +kernel) rfl hf (fun hf => ?_)
    refine zr_iadd 105 C (by decide +kernel) rfl ?_
    refine zr_name hf (fun v1 hf => ?_)
    refine zr_istore 6 [some (.ref (h 0)), none, none, some (.int x3), some (.int x4), some (.int x5), some (.int v1)] 107 C (by decide +kernel) rfl (by decide) rfl rfl ?_
    refine zr_iload_n 3 108 C (by decide +kernel) rfl rfl ?_
    refine zr_iconst (v := (-1)) (-1) 109 C (by decide +kernel) rfl rfl ?_
    refine zr_icmp_eq (off := 10) 119 112 C (by decide +kernel) (by decide) rfl hf (fun hf => ?_) (fun hf => ?_)
    · exact w_X_meetingPlace_119 C T E H82 _ _ _ _ _ hf
    · refine zr_iload 6 114 C (by decide +kernel) rfl rfl ?_
      refine zr_iload 4 116 C (by decide +kernel) rfl rfl ?_
      refine zr_icmp_ge (off := 34) 150 119 C (by decide +kernel) (by decide) rfl hf (fun hf => ?_) (fun hf => ?_)
      · refine zr_less (zA (zN (zN (zA (zA (zA (zN zE))))))) ?_
        exact w_X_meetingPlace_150 C T E H82 _ _ _ _ hf
      · exact w_X_meetingPlace_119 C T E H82 _ _ _ _ _ hf
def f_X_meetingPlace_82  : Nat → Int32 → Int32 → Int32 → zS → Option (Int32 × zS)
  | 0, _, _, _, _ => none
  | n + 1, x3, x4, x5,  σ => f_X_meetingPlace_82b (fun x3 x4 x5 σ => f_X_meetingPlace_82  n x3 x4 x5 σ) x3 x4 x5 σ
theorem w_X_meetingPlace_82 {l : Launch} {d : zD} {F : zF} {h : Nat → Nat} {out : Int32 × zS} {ad av : Nat → Nat}   (C : zOk d F RX10 cX10_meetingPlace 7 5 115) (T : zRt d F (some .int) (some (.int out.1)) (XW d h out.2)) (E : zXe d ad av)  : ∀ (n : Nat) (x3 : Int32) (x4 : Int32) (x5 : Int32) (σ : zS), f_X_meetingPlace_82  n x3 x4 x5 σ = some out → V l d F 0 0 (XW d h σ) [some (.ref (h 0)), none, none, some (.int x3), some (.int x4), some (.int x5), none] 82 [] := by
  intro n
  induction n with
  | zero =>
    intro x3 x4 x5 σ hf
    cases hf
  | succ n ih =>
    intro x3 x4 x5 σ hf
    exact w_X_meetingPlace_82b C T E ih x3 x4 x5 σ hf
def f_X_meetingPlace (p1 : Int32) (p2 : Int32) (σ : zS) : Option (Int32 × zS) :=
  zin p1 8 (zbd (f_X_measure_9 (σ.2 27 p1.toNatClampNeg) σ) fun _ σ1 =>
  zin p2 8 (zbd (f_X_measure_10 (σ1.2 27 p2.toNatClampNeg) σ1) fun _ σ2 =>
  zin p1 8 (zbd (f_La_walkFrom_12 (σ2.2 26 p1.toNatClampNeg) σ2) fun _ σ3 =>
  zin p2 8 (zbd (f_La_walkFrom_13 (σ3.2 26 p2.toNatClampNeg) σ3) fun _ σ4 =>
  f_X_meetingPlace_82 zfu (-1) 0 0 σ4))))
set_option maxRecDepth 4000 in
theorem m_X_meetingPlace {l : Launch} {d : zD} {h : Nat → Nat} {out : Int32 × zS} {σ : zS} {ad av : Nat → Nat} {p1 : Int32} {p2 : Int32} (E : zXe d ad av) (hf : f_X_meetingPlace p1 p2 σ = some out) : zM l yX10_meetingPlace cX10_meetingPlace 7 (some .int) 5 115 d [.ref (h 0), .int p1, .int p2] (XW d h σ) (XW d h out.2) (some (.int out.1)) := by
  refine zM_of [some (.ref (h 0)), some (.int p1), some (.int p2), none, none, none, none] (by decide +kernel) rfl (Nat.le_of_ble_eq_true rfl) (fun F C T => ?_)
  unfold f_X_meetingPlace at hf
  refine zr_aload_n 0 1 C (by decide +kernel) rfl rfl ?_
  refine zr_aload_n 0 2 C (by decide +kernel) rfl rfl ?_
  refine xg_0_8 (idx := 68) 5 C (by decide +kernel) rfl q_566 ?_
  refine zr_aload_n 0 6 C (by decide +kernel) rfl rfl ?_
  refine xg_0_5 (idx := 47) 9 C (by decide +kernel) rfl q_563 ?_
  refine xg_6_1 (idx := 228) 12 C (by decide +kernel) rfl q_263 ?_
  refine zr_iload_n 1 13 C (by decide +kernel) rfl rfl ?_
  refine xl_27 14 C (by decide +kernel) rfl hf (fun hf => ?_)
  refine k_X_measure_9 (idx := 201) 17 C E (by decide +kernel) rfl q_728 (zb2 rfl rfl) (Nat.le_of_ble_eq_true rfl) hf (fun _ σ1 hf => ?_)
  refine zr_aload_n 0 18 C (by decide +kernel) rfl rfl ?_
  refine zr_aload_n 0 19 C (by decide +kernel) rfl rfl ?_
  refine xg_0_9 (idx := 72) 22 C (by decide +kernel) rfl q_567 ?_
  refine zr_aload_n 0 23 C (by decide +kernel) rfl rfl ?_
  refine xg_0_5 (idx := 47) 26 C (by decide +kernel) rfl q_563 ?_
  refine xg_6_1 (idx := 228) 29 C (by decide +kernel) rfl q_263 ?_
  refine zr_iload_n 2 30 C (by decide +kernel) rfl rfl ?_
  refine xl_27 31 C (by decide +kernel) rfl hf (fun hf => ?_)
  refine k_X_measure_10 (idx := 201) 34 C E (by decide +kernel) rfl q_728 (zb2 rfl rfl) (Nat.le_of_ble_eq_true rfl) hf (fun _ σ2 hf => ?_)
  refine zr_aload_n 0 35 C (by decide +kernel) rfl rfl ?_
  refine xg_0_3 (idx := 33) 38 C (by decide +kernel) rfl q_561 ?_
  refine zr_aload_n 0 39 C (by decide +kernel) rfl rfl ?_
  refine xg_0_5 (idx := 47) 42 C (by decide +kernel) rfl q_563 ?_
  refine xg_6_0 (idx := 225) 45 C (by decide +kernel) rfl q_261 ?_
  refine zr_iload_n 1 46 C (by decide +kernel) rfl rfl ?_
  refine xl_26 47 C (by decide +kernel) rfl hf (fun hf => ?_)
  refine zr_aload_n 0 48 C (by decide +kernel) rfl rfl ?_
  refine xg_0_10 (idx := 75) 51 C (by decide +kernel) rfl q_568 ?_
  refine k_La_walkFrom_12 (idx := 219) 54 C E (by decide +kernel) rfl q_798 (zb2 rfl rfl) (Nat.le_of_ble_eq_true rfl) hf (fun _ σ3 hf => ?_)
  refine zr_aload_n 0 55 C (by decide +kernel) rfl rfl ?_
  refine xg_0_3 (idx := 33) 58 C (by decide +kernel) rfl q_561 ?_
  refine zr_aload_n 0 59 C (by decide +kernel) rfl rfl ?_
  refine xg_0_5 (idx := 47) 62 C (by decide +kernel) rfl q_563 ?_
  refine xg_6_0 (idx := 225) 65 C (by decide +kernel) rfl q_261 ?_
  refine zr_iload_n 2 66 C (by decide +kernel) rfl rfl ?_
  refine xl_26 67 C (by decide +kernel) rfl hf (fun hf => ?_)
  refine zr_aload_n 0 68 C (by decide +kernel) rfl rfl ?_
  refine xg_0_11 (idx := 79) 71 C (by decide +kernel) rfl q_569 ?_
  refine k_La_walkFrom_13 (idx := 219) 74 C E (by decide +kernel) rfl q_798 (zb2 rfl rfl) (Nat.le_of_ble_eq_true rfl) hf (fun _ σ4 hf => ?_)
  refine zr_iconst (v := (-1)) (-1) 75 C (by decide +kernel) rfl rfl ?_
  refine zr_istore_n 3 [some (.ref (h 0)), some (.int p1), some (.int p2), some (.int (-1)), none, none, none] 76 C (by decide +kernel) rfl (by decide) rfl rfl ?_
  refine zr_iconst (v := 0) 0 77 C (by decide +kernel) rfl rfl ?_
  refine zr_istore 4 [some (.ref (h 0)), some (.int p1), some (.int p2), some (.int (-1)), some (.int 0), none, none] 79 C (by decide +kernel) rfl (by decide) rfl rfl ?_
  refine zr_iconst (v := 0) 0 80 C (by decide +kernel) rfl rfl ?_
  refine zr_istore 5 [some (.ref (h 0)), some (.int p1), some (.int p2), some (.int (-1)), some (.int 0), some (.int 0), none] 82 C (by decide +kernel) rfl (by decide) rfl rfl ?_
  refine zr_less (zA (zN (zN (zA (zA (zA (zN zE))))))) ?_
  exact w_X_meetingPlace_82 C T E zfu _ _ _ _ hf
theorem y_X_meetingPlace : zY yX10_meetingPlace cX10_meetingPlace 7 (some .int) 2 := ⟨q_867, q_72, by decide +kernel, by decide +kernel, by decide +kernel⟩
theorem k_X_meetingPlace {l : Launch} {d : zD} {F : zF} {h : Nat → Nat} {σ : zS} {lv : List (Option Value)} {pc : Nat} {own : String} {cc : ByteArray} {nL fr lo idx : Nat} {rest : List Value} {β : Type} {kf : Int32 → zS → Option β} {o2 : β} {ad av : Nat → Nat}  {p1 : Int32} {p2 : Int32} (pc' : Nat) (C : zOk d F own cc nL fr lo) (E : zXe d ad av) (hd : decode cc pc = .ok (.invokevirtual idx, 3)) (hp : pc + 3 = pc') (hq : Cond.methodLink own idx yX10_meetingPlace ∈ zW) (hm : 5 + 1 ≤ fr ∧ 8 + (7 + 11) + 115 ≤ lo) (hr : (rest.map fun v => v.category).sum ≤ 8) (hf : zbd (f_X_meetingPlace p1 p2 σ) kf = some o2) (K : ∀ (r : Int32) (σ' : zS), kf r σ' = some o2 → V l d F 0 0 (XW d h σ') lv pc' (.int r :: rest)) : V l d F 0 0 (XW d h σ) lv pc (.int p2 :: .int p1 :: .ref (h 0) :: rest) := by
  obtain ⟨q, h1, h2⟩ := zbd_some hf
  exact zr_callV y_X_meetingPlace ⟨q_866, q_29⟩ 0 rfl rfl (As := [.int p1, .int p2]) (m_X_meetingPlace E h1) rfl rfl pc' C hd hp hq hm hr (K _ _ h2)
/-! StepsBeyond.meet(III)I -/
def f_X_meet (p1 : Int32) (p2 : Int32) (p3 : Int32) (σ : zS) : Option (Int32 × zS) :=
  zbd (f_Pe_knows p1 σ) fun r2 σ1 =>
  (if r2 = 0 then
  some (-5, σ1)
  else
  zbd (f_Pe_knows p2 σ1) fun r4 σ3 =>
  (if r4 = 0 then
  some (-5, σ3)
  else
  (if p1 = p2 then
  some (-5, σ3)
  else
  zbd (f_X_isBit p3 σ3) fun r6 σ5 =>
  (if r6 = 0 then
  some (-7, σ5)
  else
  zbd (f_X_isOut p1 σ5) fun r8 σ7 =>
  (if r8 = 0 then
  zbd (f_X_isOut p2 σ7) fun r10 σ9 =>
  (if r10 = 0 then
  zbd (f_X_meetingPlace p1 p2 σ9) fun r12 σ11 =>
  (if r12 = (-1) then
  some (-1, σ11)
  else
  (if p3 = 0 then
  some (r12, σ11)
  else
  zin r12 1600 (zin r12 1600 (some ((σ11.2 12 r12.toNatClampNeg) + (σ11.2 13 r12.toNatClampNeg), σ11)))))
  else
  some (-3, σ9))
  else
  some (-3, σ7))))))
set_option maxRecDepth 4000 in
theorem m_X_meet {l : Launch} {d : zD} {h : Nat → Nat} {out : Int32 × zS} {σ : zS} {ad av : Nat → Nat} {p1 : Int32} {p2 : Int32} {p3 : Int32} (E : zXe d ad av) (hf : f_X_meet p1 p2 p3 σ = some out) : zM l yX10_meet cX10_meet 5 (some .int) 6 141 d [.ref (h 0), .int p1, .int p2, .int p3] (XW d h σ) (XW d h out.2) (some (.int out.1)) := by
  refine zM_of [some (.ref (h 0)), some (.int p1), some (.int p2), some (.int p3), none] (by decide +kernel) rfl (Nat.le_of_ble_eq_true rfl) (fun F C T => ?_)
  unfold f_X_meet at hf
  refine zr_aload_n 0 1 C (by decide +kernel) rfl rfl ?_
  refine xg_0_5 (idx := 47) 4 C (by decide +kernel) rfl q_563 ?_
  refine zr_iload_n 1 5 C (by decide +kernel) rfl rfl ?_
  refine k_Pe_knows (idx := 224) 8 C E (by decide +kernel) rfl q_827 (zb2 rfl rfl) (Nat.le_of_ble_eq_true rfl) hf (fun r2 σ1 hf => ?_)
  refine zr_if_eq (off := 19) 27 11 C (by decide +kernel) (by decide) rfl hf (fun hf => ?_) (fun hf => ?_)
  · refine zr_bipush (v := (-5)) (-5) 29 C (by decide +kernel) rfl rfl ?_
    obtain rfl := Option.some.inj hf
    exact zr_iret C (by decide +kernel) T
  · refine zr_aload_n 0 12 C (by decide +kernel) rfl rfl ?_
    refine xg_0_5 (idx := 47) 15 C (by decide +kernel) rfl q_563 ?_
    refine zr_iload_n 2 16 C (by decide +kernel) rfl rfl ?_
    refine k_Pe_knows (idx := 224) 19 C E (by decide +kernel) rfl q_827 (zb2 rfl rfl) (Nat.le_of_ble_eq_true rfl) hf (fun r4 σ3 hf => ?_)
    refine zr_if_eq (off := 8) 27 22 C (by decide +kernel) (by decide) rfl hf (fun hf => ?_) (fun hf => ?_)
    · refine zr_bipush (v := (-5)) (-5) 29 C (by decide +kernel) rfl rfl ?_
      obtain rfl := Option.some.inj hf
      exact zr_iret C (by decide +kernel) T
    · refine zr_iload_n 1 23 C (by decide +kernel) rfl rfl ?_
      refine zr_iload_n 2 24 C (by decide +kernel) rfl rfl ?_
      refine zr_icmp_ne (off := 6) 30 27 C (by decide +kernel) (by decide) rfl hf (fun hf => ?_) (fun hf => ?_)
      · refine zr_iload_n 3 31 C (by decide +kernel) rfl rfl ?_
        refine k_X_isBit (idx := 127) 34 C E (by decide +kernel) rfl q_618 (zb2 rfl rfl) (Nat.le_of_ble_eq_true rfl) hf (fun r6 σ5 hf => ?_)
        refine zr_if_ne (off := 6) 40 37 C (by decide +kernel) (by decide) rfl hf (fun hf => ?_) (fun hf => ?_)
        · refine zr_aload_n 0 41 C (by decide +kernel) rfl rfl ?_
          refine zr_iload_n 1 42 C (by decide +kernel) rfl rfl ?_
          refine k_X_isOut (idx := 231) 45 C E (by decide +kernel) rfl q_835 (zb2 rfl rfl) (Nat.le_of_ble_eq_true rfl) hf (fun r8 σ7 hf => ?_)
          refine zr_if_ne (off := 11) 56 48 C (by decide +kernel) (by decide) rfl hf (fun hf => ?_) (fun hf => ?_)
          · refine zr_bipush (v := (-3)) (-3) 58 C (by decide +kernel) rfl rfl ?_
            obtain rfl := Option.some.inj hf
            exact zr_iret C (by decide +kernel) T
          · refine zr_aload_n 0 49 C (by decide +kernel) rfl rfl ?_
            refine zr_iload_n 2 50 C (by decide +kernel) rfl rfl ?_
            refine k_X_isOut (idx := 231) 53 C E (by decide +kernel) rfl q_835 (zb2 rfl rfl) (Nat.le_of_ble_eq_true rfl) hf (fun r10 σ9 hf => ?_)
            refine zr_if_eq (off := 6) 59 56 C (by decide +kernel) (by decide) rfl hf (fun hf => ?_) (fun hf => ?_)
            · refine zr_aload_n 0 60 C (by decide +kernel) rfl rfl ?_
              refine zr_iload_n 1 61 C (by decide +kernel) rfl rfl ?_
              refine zr_iload_n 2 62 C (by decide +kernel) rfl rfl ?_
              refine k_X_meetingPlace (idx := 242) 65 C E (by decide +kernel) rfl q_864 (zb2 rfl rfl) (Nat.le_of_ble_eq_true rfl) hf (fun r12 σ11 hf => ?_)
              refine zr_istore 4 [some (.ref (h 0)), some (.int p1), some (.int p2), some (.int p3), some (.int r12)] 67 C (by decide +kernel) rfl (by decide) rfl rfl ?_
              refine zr_iload 4 69 C (by decide +kernel) rfl rfl ?_
              refine zr_iconst (v := (-1)) (-1) 70 C (by decide +kernel) rfl rfl ?_
              refine zr_icmp_ne (off := 5) 75 73 C (by decide +kernel) (by decide) rfl hf (fun hf => ?_) (fun hf => ?_)
              · refine zr_iload_n 3 76 C (by decide +kernel) rfl rfl ?_
                refine zr_if_ne (off := 8) 84 79 C (by decide +kernel) (by decide) rfl hf (fun hf => ?_) (fun hf => ?_)
                · refine zr_aload_n 0 85 C (by decide +kernel) rfl rfl ?_
                  refine xg_0_10 (idx := 75) 88 C (by decide +kernel) rfl q_568 ?_
                  refine zr_iload 4 90 C (by decide +kernel) rfl rfl ?_
                  refine xl_12 91 C (by decide +kernel) rfl hf (fun hf => ?_)
                  refine zr_aload_n 0 92 C (by decide +kernel) rfl rfl ?_
                  refine xg_0_11 (idx := 79) 95 C (by decide +kernel) rfl q_569 ?_
                  refine zr_iload 4 97 C (by decide +kernel) rfl rfl ?_
                  refine xl_13 98 C (by decide +kernel) rfl hf (fun hf => ?_)
                  refine zr_iadd 99 C (by decide +kernel) rfl ?_
                  obtain rfl := Option.some.inj hf
                  exact zr_iret C (by decide +kernel) T
                · refine zr_iload 4 81 C (by decide +kernel) rfl rfl ?_
                  refine zr_goto (off := 18) 99 C (by decide +kernel) (by decide) ?_
                  obtain rfl := Option.some.inj hf
                  exact zr_iret C (by decide +kernel) T
              · refine zr_iconst (v := (-1)) (-1) 74 C (by decide +kernel) rfl rfl ?_
                obtain rfl := Option.some.inj hf
                exact zr_iret C (by decide +kernel) T
            · refine zr_bipush (v := (-3)) (-3) 58 C (by decide +kernel) rfl rfl ?_
              obtain rfl := Option.some.inj hf
              exact zr_iret C (by decide +kernel) T
        · refine zr_bipush (v := (-7)) (-7) 39 C (by decide +kernel) rfl rfl ?_
          obtain rfl := Option.some.inj hf
          exact zr_iret C (by decide +kernel) T
      · refine zr_bipush (v := (-5)) (-5) 29 C (by decide +kernel) rfl rfl ?_
        obtain rfl := Option.some.inj hf
        exact zr_iret C (by decide +kernel) T
theorem y_X_meet : zY yX10_meet cX10_meet 5 (some .int) 3 := ⟨q_863, q_72, by decide +kernel, by decide +kernel, by decide +kernel⟩
theorem k_X_meet {l : Launch} {d : zD} {F : zF} {h : Nat → Nat} {σ : zS} {lv : List (Option Value)} {pc : Nat} {own : String} {cc : ByteArray} {nL fr lo idx : Nat} {rest : List Value} {β : Type} {kf : Int32 → zS → Option β} {o2 : β} {ad av : Nat → Nat}  {p1 : Int32} {p2 : Int32} {p3 : Int32} (pc' : Nat) (C : zOk d F own cc nL fr lo) (E : zXe d ad av) (hd : decode cc pc = .ok (.invokevirtual idx, 3)) (hp : pc + 3 = pc') (hq : Cond.methodLink own idx yX10_meet ∈ zW) (hm : 6 + 1 ≤ fr ∧ 8 + (5 + 11) + 141 ≤ lo) (hr : (rest.map fun v => v.category).sum ≤ 8) (hf : zbd (f_X_meet p1 p2 p3 σ) kf = some o2) (K : ∀ (r : Int32) (σ' : zS), kf r σ' = some o2 → V l d F 0 0 (XW d h σ') lv pc' (.int r :: rest)) : V l d F 0 0 (XW d h σ) lv pc (.int p3 :: .int p2 :: .int p1 :: .ref (h 0) :: rest) := by
  obtain ⟨q, h1, h2⟩ := zbd_some hf
  exact zr_callV y_X_meet ⟨q_861, q_862⟩ 0 rfl rfl (As := [.int p1, .int p2, .int p3]) (m_X_meet E h1) rfl rfl pc' C hd hp hq hm hr (K _ _ h2)
/-! StepsBeyond.shed(II)I -/
def f_X_shed (p1 : Int32) (p2 : Int32) (σ : zS) : Option (Int32 × zS) :=
  zbd (f_Vi_knows p1 σ) fun r2 σ1 =>
  (if r2 = 0 then
  some (-1, σ1)
  else
  zbd (f_Vi_knows p2 σ1) fun r4 σ3 =>
  (if r4 = 0 then
  some (-1, σ3)
  else
  zbd (f_Vi_townOf p1 σ3) fun r6 σ5 =>
  zbd (f_X_has r6 p2 σ5) fun r8 σ7 =>
  (if r8 = 0 then
  zbd (f_Vi_townOf p2 σ7) fun r10 σ9 =>
  zbd (f_Vi_shedFor r6 r10 σ9) fun r12 σ11 =>
  some (r12, σ11)
  else
  some (-3, σ7))))
set_option maxRecDepth 4000 in
theorem m_X_shed {l : Launch} {d : zD} {h : Nat → Nat} {out : Int32 × zS} {σ : zS} {ad av : Nat → Nat} {p1 : Int32} {p2 : Int32} (E : zXe d ad av) (hf : f_X_shed p1 p2 σ = some out) : zM l yX10_shed cX10_shed 4 (some .int) 6 142 d [.ref (h 0), .int p1, .int p2] (XW d h σ) (XW d h out.2) (some (.int out.1)) := by
  refine zM_of [some (.ref (h 0)), some (.int p1), some (.int p2), none] (by decide +kernel) rfl (Nat.le_of_ble_eq_true rfl) (fun F C T => ?_)
  unfold f_X_shed at hf
  refine zr_aload_n 0 1 C (by decide +kernel) rfl rfl ?_
  refine xg_0_2 (idx := 26) 4 C (by decide +kernel) rfl q_560 ?_
  refine zr_iload_n 1 5 C (by decide +kernel) rfl rfl ?_
  refine k_Vi_knows (idx := 133) 8 C E (by decide +kernel) rfl q_629 (zb2 rfl rfl) (Nat.le_of_ble_eq_true rfl) hf (fun r2 σ1 hf => ?_)
  refine zr_if_eq (off := 14) 22 11 C (by decide +kernel) (by decide) rfl hf (fun hf => ?_) (fun hf => ?_)
  · refine zr_iconst (v := (-1)) (-1) 23 C (by decide +kernel) rfl rfl ?_
    obtain rfl := Option.some.inj hf
    exact zr_iret C (by decide +kernel) T
  · refine zr_aload_n 0 12 C (by decide +kernel) rfl rfl ?_
    refine xg_0_2 (idx := 26) 15 C (by decide +kernel) rfl q_560 ?_
    refine zr_iload_n 2 16 C (by decide +kernel) rfl rfl ?_
    refine k_Vi_knows (idx := 133) 19 C E (by decide +kernel) rfl q_629 (zb2 rfl rfl) (Nat.le_of_ble_eq_true rfl) hf (fun r4 σ3 hf => ?_)
    refine zr_if_ne (off := 5) 24 22 C (by decide +kernel) (by decide) rfl hf (fun hf => ?_) (fun hf => ?_)
    · refine zr_aload_n 0 25 C (by decide +kernel) rfl rfl ?_
      refine xg_0_2 (idx := 26) 28 C (by decide +kernel) rfl q_560 ?_
      refine zr_iload_n 1 29 C (by decide +kernel) rfl rfl ?_
      refine k_Vi_townOf (idx := 153) 32 C E (by decide +kernel) rfl q_657 (zb2 rfl rfl) (Nat.le_of_ble_eq_true rfl) hf (fun r6 σ5 hf => ?_)
      refine zr_istore_n 3 [some (.ref (h 0)), some (.int p1), some (.int p2), some (.int r6)] 33 C (by decide +kernel) rfl (by decide) rfl rfl ?_
      refine zr_iload_n 3 34 C (by decide +kernel) rfl rfl ?_
      refine zr_iload_n 2 35 C (by decide +kernel) rfl rfl ?_
      refine k_X_has (idx := 145) 38 C E (by decide +kernel) rfl q_638 (zb2 rfl rfl) (Nat.le_of_ble_eq_true rfl) hf (fun r8 σ7 hf => ?_)
      refine zr_if_eq (off := 6) 44 41 C (by decide +kernel) (by decide) rfl hf (fun hf => ?_) (fun hf => ?_)
      · refine zr_aload_n 0 45 C (by decide +kernel) rfl rfl ?_
        refine xg_0_2 (idx := 26) 48 C (by decide +kernel) rfl q_560 ?_
        refine zr_iload_n 3 49 C (by decide +kernel) rfl rfl ?_
        refine zr_aload_n 0 50 C (by decide +kernel) rfl rfl ?_
        refine xg_0_2 (idx := 26) 53 C (by decide +kernel) rfl q_560 ?_
        refine zr_iload_n 2 54 C (by decide +kernel) rfl rfl ?_
        refine k_Vi_townOf (idx := 153) 57 C E (by decide +kernel) rfl q_657 (zb2 rfl rfl) (Nat.le_of_ble_eq_true rfl) hf (fun r10 σ9 hf => ?_)
        refine k_Vi_shedFor (idx := 245) 60 C E (by decide +kernel) rfl q_872 (zb2 rfl rfl) (Nat.le_of_ble_eq_true rfl) hf (fun r12 σ11 hf => ?_)
        obtain rfl := Option.some.inj hf
        exact zr_iret C (by decide +kernel) T
      · refine zr_bipush (v := (-3)) (-3) 43 C (by decide +kernel) rfl rfl ?_
        obtain rfl := Option.some.inj hf
        exact zr_iret C (by decide +kernel) T
    · refine zr_iconst (v := (-1)) (-1) 23 C (by decide +kernel) rfl rfl ?_
      obtain rfl := Option.some.inj hf
      exact zr_iret C (by decide +kernel) T
theorem y_X_shed : zY yX10_shed cX10_shed 4 (some .int) 2 := ⟨q_871, q_72, by decide +kernel, by decide +kernel, by decide +kernel⟩
theorem k_X_shed {l : Launch} {d : zD} {F : zF} {h : Nat → Nat} {σ : zS} {lv : List (Option Value)} {pc : Nat} {own : String} {cc : ByteArray} {nL fr lo idx : Nat} {rest : List Value} {β : Type} {kf : Int32 → zS → Option β} {o2 : β} {ad av : Nat → Nat}  {p1 : Int32} {p2 : Int32} (pc' : Nat) (C : zOk d F own cc nL fr lo) (E : zXe d ad av) (hd : decode cc pc = .ok (.invokevirtual idx, 3)) (hp : pc + 3 = pc') (hq : Cond.methodLink own idx yX10_shed ∈ zW) (hm : 6 + 1 ≤ fr ∧ 8 + (4 + 11) + 142 ≤ lo) (hr : (rest.map fun v => v.category).sum ≤ 8) (hf : zbd (f_X_shed p1 p2 σ) kf = some o2) (K : ∀ (r : Int32) (σ' : zS), kf r σ' = some o2 → V l d F 0 0 (XW d h σ') lv pc' (.int r :: rest)) : V l d F 0 0 (XW d h σ) lv pc (.int p2 :: .int p1 :: .ref (h 0) :: rest) := by
  obtain ⟨q, h1, h2⟩ := zbd_some hf
  exact zr_callV y_X_shed ⟨q_869, q_870⟩ 0 rfl rfl (As := [.int p1, .int p2]) (m_X_shed E h1) rfl rfl pc' C hd hp hq hm hr (K _ _ h2)
/-! StepsBeyond.bridge(III)I -/
def f_X_bridge (p1 : Int32) (p2 : Int32) (p3 : Int32) (σ : zS) : Option (Int32 × zS) :=
  zbd (f_Vi_knows p1 σ) fun r2 σ1 =>
  (if r2 = 0 then
  some (-1, σ1)
  else
  zbd (f_Vi_knows p2 σ1) fun r4 σ3 =>
  (if r4 = 0 then
  some (-1, σ3)
  else
  zbd (f_X_isFrom p3 0 80 σ3) fun r6 σ5 =>
  (if r6 = 0 then
  some (-2, σ5)
  else
  zbd (f_Vi_roundsTo p1 p2 p3 σ5) fun r8 σ7 =>
  some (r8, σ7))))
set_option maxRecDepth 4000 in
theorem m_X_bridge {l : Launch} {d : zD} {h : Nat → Nat} {out : Int32 × zS} {σ : zS} {ad av : Nat → Nat} {p1 : Int32} {p2 : Int32} {p3 : Int32} (E : zXe d ad av) (hf : f_X_bridge p1 p2 p3 σ = some out) : zM l yX10_bridge cX10_bridge 4 (some .int) 5 118 d [.ref (h 0), .int p1, .int p2, .int p3] (XW d h σ) (XW d h out.2) (some (.int out.1)) := by
  refine zM_of [some (.ref (h 0)), some (.int p1), some (.int p2), some (.int p3)] (by decide +kernel) rfl (Nat.le_of_ble_eq_true rfl) (fun F C T => ?_)
  unfold f_X_bridge at hf
  refine zr_aload_n 0 1 C (by decide +kernel) rfl rfl ?_
  refine xg_0_2 (idx := 26) 4 C (by decide +kernel) rfl q_560 ?_
  refine zr_iload_n 1 5 C (by decide +kernel) rfl rfl ?_
  refine k_Vi_knows (idx := 133) 8 C E (by decide +kernel) rfl q_629 (zb2 rfl rfl) (Nat.le_of_ble_eq_true rfl) hf (fun r2 σ1 hf => ?_)
  refine zr_if_eq (off := 14) 22 11 C (by decide +kernel) (by decide) rfl hf (fun hf => ?_) (fun hf => ?_)
  · refine zr_iconst (v := (-1)) (-1) 23 C (by decide +kernel) rfl rfl ?_
    obtain rfl := Option.some.inj hf
    exact zr_iret C (by decide +kernel) T
  · refine zr_aload_n 0 12 C (by decide +kernel) rfl rfl ?_
    refine xg_0_2 (idx := 26) 15 C (by decide +kernel) rfl q_560 ?_
    refine zr_iload_n 2 16 C (by decide +kernel) rfl rfl ?_
    refine k_Vi_knows (idx := 133) 19 C E (by decide +kernel) rfl q_629 (zb2 rfl rfl) (Nat.le_of_ble_eq_true rfl) hf (fun r4 σ3 hf => ?_)
    refine zr_if_ne (off := 5) 24 22 C (by decide +kernel) (by decide) rfl hf (fun hf => ?_) (fun hf => ?_)
    · refine zr_iload_n 3 25 C (by decide +kernel) rfl rfl ?_
      refine zr_iconst (v := 0) 0 26 C (by decide +kernel) rfl rfl ?_
      refine zr_bipush (v := 80) 80 28 C (by decide +kernel) rfl rfl ?_
      refine k_X_isFrom (idx := 159) 31 C E (by decide +kernel) rfl q_615 (zb2 rfl rfl) (Nat.le_of_ble_eq_true rfl) hf (fun r6 σ5 hf => ?_)
      refine zr_if_ne (off := 6) 37 34 C (by decide +kernel) (by decide) rfl hf (fun hf => ?_) (fun hf => ?_)
      · refine zr_aload_n 0 38 C (by decide +kernel) rfl rfl ?_
        refine xg_0_2 (idx := 26) 41 C (by decide +kernel) rfl q_560 ?_
        refine zr_iload_n 1 42 C (by decide +kernel) rfl rfl ?_
        refine zr_iload_n 2 43 C (by decide +kernel) rfl rfl ?_
        refine zr_iload_n 3 44 C (by decide +kernel) rfl rfl ?_
        refine k_Vi_roundsTo (idx := 248) 47 C E (by decide +kernel) rfl q_888 (zb2 rfl rfl) (Nat.le_of_ble_eq_true rfl) hf (fun r8 σ7 hf => ?_)
        obtain rfl := Option.some.inj hf
        exact zr_iret C (by decide +kernel) T
      · refine zr_bipush (v := (-2)) (-2) 36 C (by decide +kernel) rfl rfl ?_
        obtain rfl := Option.some.inj hf
        exact zr_iret C (by decide +kernel) T
    · refine zr_iconst (v := (-1)) (-1) 23 C (by decide +kernel) rfl rfl ?_
      obtain rfl := Option.some.inj hf
      exact zr_iret C (by decide +kernel) T
theorem y_X_bridge : zY yX10_bridge cX10_bridge 4 (some .int) 3 := ⟨q_887, q_72, by decide +kernel, by decide +kernel, by decide +kernel⟩
theorem k_X_bridge {l : Launch} {d : zD} {F : zF} {h : Nat → Nat} {σ : zS} {lv : List (Option Value)} {pc : Nat} {own : String} {cc : ByteArray} {nL fr lo idx : Nat} {rest : List Value} {β : Type} {kf : Int32 → zS → Option β} {o2 : β} {ad av : Nat → Nat}  {p1 : Int32} {p2 : Int32} {p3 : Int32} (pc' : Nat) (C : zOk d F own cc nL fr lo) (E : zXe d ad av) (hd : decode cc pc = .ok (.invokevirtual idx, 3)) (hp : pc + 3 = pc') (hq : Cond.methodLink own idx yX10_bridge ∈ zW) (hm : 5 + 1 ≤ fr ∧ 8 + (4 + 11) + 118 ≤ lo) (hr : (rest.map fun v => v.category).sum ≤ 8) (hf : zbd (f_X_bridge p1 p2 p3 σ) kf = some o2) (K : ∀ (r : Int32) (σ' : zS), kf r σ' = some o2 → V l d F 0 0 (XW d h σ') lv pc' (.int r :: rest)) : V l d F 0 0 (XW d h σ) lv pc (.int p3 :: .int p2 :: .int p1 :: .ref (h 0) :: rest) := by
  obtain ⟨q, h1, h2⟩ := zbd_some hf
  exact zr_callV y_X_bridge ⟨q_885, q_886⟩ 0 rfl rfl (As := [.int p1, .int p2, .int p3]) (m_X_bridge E h1) rfl rfl pc' C hd hp hq hm hr (K _ _ h2)
/-! StepsBeyond.count(I)I -/
def f_X_count (p1 : Int32) (σ : zS) : Option (Int32 × zS) :=
  (if p1 = 0 then
  some (σ.1 307, σ)
  else
  (if p1 = 1 then
  zbd (f_Vi_countTowns  σ) fun r2 σ1 =>
  some (r2, σ1)
  else
  (if p1 = 2 then
  some (σ.1 503, σ)
  else
  (if p1 = 3 then
  some (σ.1 308, σ)
  else
  (if p1 = 4 then
  some (σ.1 602, σ)
  else
  (if p1 = 5 then
  some (σ.1 13, σ)
  else
  (if p1 = 6 then
  some (σ.1 202, σ)
  else
  (if p1 = 7 then
  some (σ.1 14, σ)
  else
  (if p1 = 8 then
  some (σ.1 102, σ)
  else
  some (-2, σ))))))))))
set_option maxRecDepth 4000 in
theorem m_X_count {l : Launch} {d : zD} {h : Nat → Nat} {out : Int32 × zS} {σ : zS} {ad av : Nat → Nat} {p1 : Int32} (E : zXe d ad av) (hf : f_X_count p1 σ = some out) : zM l yX10_count cX10_count 2 (some .int) 4 91 d [.ref (h 0), .int p1] (XW d h σ) (XW d h out.2) (some (.int out.1)) := by
  refine zM_of [some (.ref (h 0)), some (.int p1)] (by decide +kernel) rfl (Nat.le_of_ble_eq_true rfl) (fun F C T => ?_)
  unfold f_X_count at hf
  refine zr_iload_n 1 1 C (by decide +kernel) rfl rfl ?_
  refine zr_tcase (dflt := 117) (lw := 0) (hi := 8) (offs := #[51, 59, 67, 75, 83, 91, 96, 104, 109]) (len := 51) (off := 51) (j := 0) 0 52 C (by decide +kernel) (by decide) (by decide) rfl (by decide) hf (fun hf => ?_) (fun hn0 hf => ?_)
  · refine zr_aload_n 0 53 C (by decide +kernel) rfl rfl ?_
    refine xg_0_2 (idx := 26) 56 C (by decide +kernel) rfl q_560 ?_
    refine xg_3_7 (idx := 251) 59 C (by decide +kernel) rfl q_193 ?_
    obtain rfl := Option.some.inj hf
    exact zr_iret C (by decide +kernel) T
  refine zr_tcase (dflt := 117) (lw := 0) (hi := 8) (offs := #[51, 59, 67, 75, 83, 91, 96, 104, 109]) (len := 51) (off := 59) (j := 1) 1 60 C (by decide +kernel) (by decide) (by decide) rfl (by decide) hf (fun hf => ?_) (fun hn1 hf => ?_)
  · refine zr_aload_n 0 61 C (by decide +kernel) rfl rfl ?_
    refine xg_0_2 (idx := 26) 64 C (by decide +kernel) rfl q_560 ?_
    refine k_Vi_countTowns (idx := 252) 67 C E (by decide +kernel) rfl q_905 (zb2 rfl rfl) (Nat.le_of_ble_eq_true rfl) hf (fun r2 σ1 hf => ?_)
    obtain rfl := Option.some.inj hf
    exact zr_iret C (by decide +kernel) T
  refine zr_tcase (dflt := 117) (lw := 0) (hi := 8) (offs := #[51, 59, 67, 75, 83, 91, 96, 104, 109]) (len := 51) (off := 67) (j := 2) 2 68 C (by decide +kernel) (by decide) (by decide) rfl (by decide) hf (fun hf => ?_) (fun hn2 hf => ?_)
  · refine zr_aload_n 0 69 C (by decide +kernel) rfl rfl ?_
    refine xg_0_4 (idx := 40) 72 C (by decide +kernel) rfl q_562 ?_
    refine xg_5_3 (idx := 255) 75 C (by decide +kernel) rfl q_244 ?_
    obtain rfl := Option.some.inj hf
    exact zr_iret C (by decide +kernel) T
  refine zr_tcase (dflt := 117) (lw := 0) (hi := 8) (offs := #[51, 59, 67, 75, 83, 91, 96, 104, 109]) (len := 51) (off := 75) (j := 3) 3 76 C (by decide +kernel) (by decide) (by decide) rfl (by decide) hf (fun hf => ?_) (fun hn3 hf => ?_)
  · refine zr_aload_n 0 77 C (by decide +kernel) rfl rfl ?_
    refine xg_0_2 (idx := 26) 80 C (by decide +kernel) rfl q_560 ?_
    refine xg_3_8 (idx := 212) 83 C (by decide +kernel) rfl q_195 ?_
    obtain rfl := Option.some.inj hf
    exact zr_iret C (by decide +kernel) T
  refine zr_tcase (dflt := 117) (lw := 0) (hi := 8) (offs := #[51, 59, 67, 75, 83, 91, 96, 104, 109]) (len := 51) (off := 83) (j := 4) 4 84 C (by decide +kernel) (by decide) (by decide) rfl (by decide) hf (fun hf => ?_) (fun hn4 hf => ?_)
  · refine zr_aload_n 0 85 C (by decide +kernel) rfl rfl ?_
    refine xg_0_5 (idx := 47) 88 C (by decide +kernel) rfl q_563 ?_
    refine xg_6_2 (idx := 241) 91 C (by decide +kernel) rfl q_265 ?_
    obtain rfl := Option.some.inj hf
    exact zr_iret C (by decide +kernel) T
  refine zr_tcase (dflt := 117) (lw := 0) (hi := 8) (offs := #[51, 59, 67, 75, 83, 91, 96, 104, 109]) (len := 51) (off := 91) (j := 5) 5 92 C (by decide +kernel) (by decide) (by decide) rfl (by decide) hf (fun hf => ?_) (fun hn5 hf => ?_)
  · refine zr_aload_n 0 93 C (by decide +kernel) rfl rfl ?_
    refine xg_0_13 (idx := 234) 96 C (by decide +kernel) rfl q_571 ?_
    obtain rfl := Option.some.inj hf
    exact zr_iret C (by decide +kernel) T
  refine zr_tcase (dflt := 117) (lw := 0) (hi := 8) (offs := #[51, 59, 67, 75, 83, 91, 96, 104, 109]) (len := 51) (off := 96) (j := 6) 6 97 C (by decide +kernel) (by decide) (by decide) rfl (by decide) hf (fun hf => ?_) (fun hn6 hf => ?_)
  · refine zr_aload_n 0 98 C (by decide +kernel) rfl rfl ?_
    refine xg_0_1 (idx := 19) 101 C (by decide +kernel) rfl q_559 ?_
    refine xg_2_2 (idx := 166) 104 C (by decide +kernel) rfl q_152 ?_
    obtain rfl := Option.some.inj hf
    exact zr_iret C (by decide +kernel) T
  refine zr_tcase (dflt := 117) (lw := 0) (hi := 8) (offs := #[51, 59, 67, 75, 83, 91, 96, 104, 109]) (len := 51) (off := 104) (j := 7) 7 105 C (by decide +kernel) (by decide) (by decide) rfl (by decide) hf (fun hf => ?_) (fun hn7 hf => ?_)
  · refine zr_aload_n 0 106 C (by decide +kernel) rfl rfl ?_
    refine xg_0_14 (idx := 173) 109 C (by decide +kernel) rfl q_572 ?_
    obtain rfl := Option.some.inj hf
    exact zr_iret C (by decide +kernel) T
  refine zr_tcase (dflt := 117) (lw := 0) (hi := 8) (offs := #[51, 59, 67, 75, 83, 91, 96, 104, 109]) (len := 51) (off := 109) (j := 8) 8 110 C (by decide +kernel) (by decide) (by decide) rfl (by decide) hf (fun hf => ?_) (fun hn8 hf => ?_)
  · refine zr_aload_n 0 111 C (by decide +kernel) rfl rfl ?_
    refine xg_0_0 (idx := 12) 114 C (by decide +kernel) rfl q_558 ?_
    refine xg_1_2 (idx := 163) 117 C (by decide +kernel) rfl q_109 ?_
    obtain rfl := Option.some.inj hf
    exact zr_iret C (by decide +kernel) T
  refine zr_tdflt (dflt := 117) (lw := 0) (hi := 8) (offs := #[51, 59, 67, 75, 83, 91, 96, 104, 109]) (len := 51) 118 C (by decide +kernel) (by decide) (by decide) (fun j hj hx => ?_) ?_
  · rcases (show j = 0 ∨ j = 1 ∨ j = 2 ∨ j = 3 ∨ j = 4 ∨ j = 5 ∨ j = 6 ∨ j = 7 ∨ j = 8 by have hj2 : j < 9 := hj; omega) with rfl | rfl | rfl | rfl | rfl | rfl | rfl | rfl | rfl
    · exact absurd (z_ti (c := 0) (by decide) hx) hn0
    · exact absurd (z_ti (c := 1) (by decide) hx) hn1
    · exact absurd (z_ti (c := 2) (by decide) hx) hn2
    · exact absurd (z_ti (c := 3) (by decide) hx) hn3
    · exact absurd (z_ti (c := 4) (by decide) hx) hn4
    · exact absurd (z_ti (c := 5) (by decide) hx) hn5
    · exact absurd (z_ti (c := 6) (by decide) hx) hn6
    · exact absurd (z_ti (c := 7) (by decide) hx) hn7
    · exact absurd (z_ti (c := 8) (by decide) hx) hn8
  refine zr_bipush (v := (-2)) (-2) 120 C (by decide +kernel) rfl rfl ?_
  obtain rfl := Option.some.inj hf
  exact zr_iret C (by decide +kernel) T
theorem y_X_count : zY yX10_count cX10_count 2 (some .int) 1 := ⟨q_904, q_72, by decide +kernel, by decide +kernel, by decide +kernel⟩
theorem k_X_count {l : Launch} {d : zD} {F : zF} {h : Nat → Nat} {σ : zS} {lv : List (Option Value)} {pc : Nat} {own : String} {cc : ByteArray} {nL fr lo idx : Nat} {rest : List Value} {β : Type} {kf : Int32 → zS → Option β} {o2 : β} {ad av : Nat → Nat}  {p1 : Int32} (pc' : Nat) (C : zOk d F own cc nL fr lo) (E : zXe d ad av) (hd : decode cc pc = .ok (.invokevirtual idx, 3)) (hp : pc + 3 = pc') (hq : Cond.methodLink own idx yX10_count ∈ zW) (hm : 4 + 1 ≤ fr ∧ 8 + (2 + 11) + 91 ≤ lo) (hr : (rest.map fun v => v.category).sum ≤ 8) (hf : zbd (f_X_count p1 σ) kf = some o2) (K : ∀ (r : Int32) (σ' : zS), kf r σ' = some o2 → V l d F 0 0 (XW d h σ') lv pc' (.int r :: rest)) : V l d F 0 0 (XW d h σ) lv pc (.int p1 :: .ref (h 0) :: rest) := by
  obtain ⟨q, h1, h2⟩ := zbd_some hf
  exact zr_callV y_X_count ⟨q_902, q_903⟩ 0 rfl rfl (As := [.int p1]) (m_X_count E h1) rfl rfl pc' C hd hp hq hm hr (K _ _ h2)
/-! StepsBeyond.image()I -/
def f_X_image  (σ : zS) : Option (Int32 × zS) :=
  zlt (zsg σ 702 1) fun σ1 =>
  zlt (zsg σ1 703 (σ1.1 307)) fun σ2 =>
  zlt (zsg σ2 704 (σ2.1 602)) fun σ3 =>
  zlt (zsg σ3 705 (σ3.1 15)) fun σ4 =>
  zlt (zsg σ4 706 (σ4.1 14)) fun σ5 =>
  zcp 0 0 20 20 20 (zlt (zsc σ5 18 28 0 0 20) fun σ6 =>
  zcp 0 0 8 8 8 (zlt (zsc σ6 26 29 0 0 8) fun σ7 =>
  some (σ7.1 307, σ7)))
set_option maxRecDepth 4000 in
theorem m_X_image {l : Launch} {d : zD} {h : Nat → Nat} {out : Int32 × zS} {σ : zS} {ad av : Nat → Nat}  (E : zXe d ad av) (hf : f_X_image  σ = some out) : zM l yX10_image cX10_image 1 (some .int) 1 60 d [.ref (h 0)] (XW d h σ) (XW d h out.2) (some (.int out.1)) := by
  refine zM_of [some (.ref (h 0))] (by decide +kernel) rfl (Nat.le_of_ble_eq_true rfl) (fun F C T => ?_)
  unfold f_X_image at hf
  refine zr_aload_n 0 1 C (by decide +kernel) rfl rfl ?_
  refine xg_0_6 (idx := 54) 4 C (by decide +kernel) rfl q_564 ?_
  refine zr_iconst (v := 1) 1 5 C (by decide +kernel) rfl rfl ?_
  refine xp_7_2 (idx := 256) 8 C (by decide +kernel) rfl q_283 rfl hf (fun σ1 hf => ?_)
  refine zr_aload_n 0 9 C (by decide +kernel) rfl rfl ?_
  refine xg_0_6 (idx := 54) 12 C (by decide +kernel) rfl q_564 ?_
  refine zr_aload_n 0 13 C (by decide +kernel) rfl rfl ?_
  refine xg_0_2 (idx := 26) 16 C (by decide +kernel) rfl q_560 ?_
  refine xg_3_7 (idx := 251) 19 C (by decide +kernel) rfl q_193 ?_
  refine xp_7_3 (idx := 260) 22 C (by decide +kernel) rfl q_284 hf (fun σ2 hf => ?_)
  refine zr_aload_n 0 23 C (by decide +kernel) rfl rfl ?_
  refine xg_0_6 (idx := 54) 26 C (by decide +kernel) rfl q_564 ?_
  refine zr_aload_n 0 27 C (by decide +kernel) rfl rfl ?_
  refine xg_0_5 (idx := 47) 30 C (by decide +kernel) rfl q_563 ?_
  refine xg_6_2 (idx := 241) 33 C (by decide +kernel) rfl q_265 ?_
  refine xp_7_4 (idx := 263) 36 C (by decide +kernel) rfl q_285 hf (fun σ3 hf => ?_)
  refine zr_aload_n 0 37 C (by decide +kernel) rfl rfl ?_
  refine xg_0_6 (idx := 54) 40 C (by decide +kernel) rfl q_564 ?_
  refine zr_aload_n 0 41 C (by decide +kernel) rfl rfl ?_
  refine xg_0_15 (idx := 182) 44 C (by decide +kernel) rfl q_573 ?_
  refine xp_7_5 (idx := 266) 47 C (by decide +kernel) rfl q_286 hf (fun σ4 hf => ?_)
  refine zr_aload_n 0 48 C (by decide +kernel) rfl rfl ?_
  refine xg_0_6 (idx := 54) 51 C (by decide +kernel) rfl q_564 ?_
  refine zr_aload_n 0 52 C (by decide +kernel) rfl rfl ?_
  refine xg_0_14 (idx := 173) 55 C (by decide +kernel) rfl q_572 ?_
  refine xp_7_6 (idx := 267) 58 C (by decide +kernel) rfl q_287 hf (fun σ5 hf => ?_)
  refine zr_aload_n 0 59 C (by decide +kernel) rfl rfl ?_
  refine xg_0_2 (idx := 26) 62 C (by decide +kernel) rfl q_560 ?_
  refine xg_3_1 (idx := 136) 65 C (by decide +kernel) rfl q_185 ?_
  refine zr_iconst (v := 0) 0 66 C (by decide +kernel) rfl rfl ?_
  refine zr_aload_n 0 67 C (by decide +kernel) rfl rfl ?_
  refine xg_0_6 (idx := 54) 70 C (by decide +kernel) rfl q_564 ?_
  refine xg_7_0 (idx := 268) 73 C (by decide +kernel) rfl q_280 ?_
  refine zr_iconst (v := 0) 0 74 C (by decide +kernel) rfl rfl ?_
  refine zr_bipush (v := 20) 20 76 C (by decide +kernel) rfl rfl ?_
  refine xc_18_28 (idx := 269) 79 C (by decide +kernel) rfl q_913 (zb2 rfl rfl) (Nat.le_of_ble_eq_true rfl) hf (fun σ6 hf => ?_)
  refine zr_aload_n 0 80 C (by decide +kernel) rfl rfl ?_
  refine xg_0_5 (idx := 47) 83 C (by decide +kernel) rfl q_563 ?_
  refine xg_6_0 (idx := 225) 86 C (by decide +kernel) rfl q_261 ?_
  refine zr_iconst (v := 0) 0 87 C (by decide +kernel) rfl rfl ?_
  refine zr_aload_n 0 88 C (by decide +kernel) rfl rfl ?_
  refine xg_0_6 (idx := 54) 91 C (by decide +kernel) rfl q_564 ?_
  refine xg_7_1 (idx := 275) 94 C (by decide +kernel) rfl q_282 ?_
  refine zr_iconst (v := 0) 0 95 C (by decide +kernel) rfl rfl ?_
  refine zr_bipush (v := 8) 8 97 C (by decide +kernel) rfl rfl ?_
  refine xc_26_29 (idx := 269) 100 C (by decide +kernel) rfl q_913 (zb2 rfl rfl) (Nat.le_of_ble_eq_true rfl) hf (fun σ7 hf => ?_)
  refine zr_aload_n 0 101 C (by decide +kernel) rfl rfl ?_
  refine xg_0_2 (idx := 26) 104 C (by decide +kernel) rfl q_560 ?_
  refine xg_3_7 (idx := 251) 107 C (by decide +kernel) rfl q_193 ?_
  obtain rfl := Option.some.inj hf
  exact zr_iret C (by decide +kernel) T
theorem y_X_image : zY yX10_image cX10_image 1 (some .int) 0 := ⟨q_912, q_72, by decide +kernel, by decide +kernel, by decide +kernel⟩
theorem k_X_image {l : Launch} {d : zD} {F : zF} {h : Nat → Nat} {σ : zS} {lv : List (Option Value)} {pc : Nat} {own : String} {cc : ByteArray} {nL fr lo idx : Nat} {rest : List Value} {β : Type} {kf : Int32 → zS → Option β} {o2 : β} {ad av : Nat → Nat}   (pc' : Nat) (C : zOk d F own cc nL fr lo) (E : zXe d ad av) (hd : decode cc pc = .ok (.invokevirtual idx, 3)) (hp : pc + 3 = pc') (hq : Cond.methodLink own idx yX10_image ∈ zW) (hm : 1 + 1 ≤ fr ∧ 8 + (1 + 11) + 60 ≤ lo) (hr : (rest.map fun v => v.category).sum ≤ 8) (hf : zbd (f_X_image  σ) kf = some o2) (K : ∀ (r : Int32) (σ' : zS), kf r σ' = some o2 → V l d F 0 0 (XW d h σ') lv pc' (.int r :: rest)) : V l d F 0 0 (XW d h σ) lv pc (.ref (h 0) :: rest) := by
  obtain ⟨q, h1, h2⟩ := zbd_some hf
  exact zr_callV y_X_image ⟨q_910, q_911⟩ 0 rfl rfl (As := []) (m_X_image E h1) rfl rfl pc' C hd hp hq hm hr (K _ _ h2)
/-! StepsBeyond.back()I -/
def f_X_back  (σ : zS) : Option (Int32 × zS) :=
  (if (σ.1 702) = 0 then
  some (-3, σ)
  else
  zcp 0 0 (σ.1 703) 20 20 (zlt (zsc σ 28 18 0 0 (σ.1 703)) fun σ1 =>
  zcp 0 0 (σ1.1 704) 8 8 (zlt (zsc σ1 29 26 0 0 (σ1.1 704)) fun σ2 =>
  zlt (zsg σ2 15 (σ2.1 705)) fun σ3 =>
  zbd (f_X_enforce (σ3.1 706) σ3) fun _ σ4 =>
  some (σ4.1 307, σ4))))
set_option maxRecDepth 4000 in
theorem m_X_back {l : Launch} {d : zD} {h : Nat → Nat} {out : Int32 × zS} {σ : zS} {ad av : Nat → Nat}  (E : zXe d ad av) (hf : f_X_back  σ = some out) : zM l yX10_back cX10_back 1 (some .int) 6 136 d [.ref (h 0)] (XW d h σ) (XW d h out.2) (some (.int out.1)) := by
  refine zM_of [some (.ref (h 0))] (by decide +kernel) rfl (Nat.le_of_ble_eq_true rfl) (fun F C T => ?_)
  unfold f_X_back at hf
  refine zr_aload_n 0 1 C (by decide +kernel) rfl rfl ?_
  refine xg_0_6 (idx := 54) 4 C (by decide +kernel) rfl q_564 ?_
  refine xg_7_2 (idx := 256) 7 C (by decide +kernel) rfl q_283 ?_
  refine zr_if_ne (off := 6) 13 10 C (by decide +kernel) (by decide) rfl hf (fun hf => ?_) (fun hf => ?_)
  · refine zr_aload_n 0 14 C (by decide +kernel) rfl rfl ?_
    refine xg_0_6 (idx := 54) 17 C (by decide +kernel) rfl q_564 ?_
    refine xg_7_0 (idx := 268) 20 C (by decide +kernel) rfl q_280 ?_
    refine zr_iconst (v := 0) 0 21 C (by decide +kernel) rfl rfl ?_
    refine zr_aload_n 0 22 C (by decide +kernel) rfl rfl ?_
    refine xg_0_2 (idx := 26) 25 C (by decide +kernel) rfl q_560 ?_
    refine xg_3_1 (idx := 136) 28 C (by decide +kernel) rfl q_185 ?_
    refine zr_iconst (v := 0) 0 29 C (by decide +kernel) rfl rfl ?_
    refine zr_aload_n 0 30 C (by decide +kernel) rfl rfl ?_
    refine xg_0_6 (idx := 54) 33 C (by decide +kernel) rfl q_564 ?_
    refine xg_7_3 (idx := 260) 36 C (by decide +kernel) rfl q_284 ?_
    refine xc_28_18 (idx := 269) 39 C (by decide +kernel) rfl q_913 (zb2 rfl rfl) (Nat.le_of_ble_eq_true rfl) hf (fun σ1 hf => ?_)
    refine zr_aload_n 0 40 C (by decide +kernel) rfl rfl ?_
    refine xg_0_6 (idx := 54) 43 C (by decide +kernel) rfl q_564 ?_
    refine xg_7_1 (idx := 275) 46 C (by decide +kernel) rfl q_282 ?_
    refine zr_iconst (v := 0) 0 47 C (by decide +kernel) rfl rfl ?_
    refine zr_aload_n 0 48 C (by decide +kernel) rfl rfl ?_
    refine xg_0_5 (idx := 47) 51 C (by decide +kernel) rfl q_563 ?_
    refine xg_6_0 (idx := 225) 54 C (by decide +kernel) rfl q_261 ?_
    refine zr_iconst (v := 0) 0 55 C (by decide +kernel) rfl rfl ?_
    refine zr_aload_n 0 56 C (by decide +kernel) rfl rfl ?_
    refine xg_0_6 (idx := 54) 59 C (by decide +kernel) rfl q_564 ?_
    refine xg_7_4 (idx := 263) 62 C (by decide +kernel) rfl q_285 ?_
    refine xc_29_26 (idx := 269) 65 C (by decide +kernel) rfl q_913 (zb2 rfl rfl) (Nat.le_of_ble_eq_true rfl) hf (fun σ2 hf => ?_)
    refine zr_aload_n 0 66 C (by decide +kernel) rfl rfl ?_
    refine zr_aload_n 0 67 C (by decide +kernel) rfl rfl ?_
    refine xg_0_6 (idx := 54) 70 C (by decide +kernel) rfl q_564 ?_
    refine xg_7_5 (idx := 266) 73 C (by decide +kernel) rfl q_286 ?_
    refine xp_0_15 (idx := 182) 76 C (by decide +kernel) rfl q_573 hf (fun σ3 hf => ?_)
    refine zr_aload_n 0 77 C (by decide +kernel) rfl rfl ?_
    refine zr_aload_n 0 78 C (by decide +kernel) rfl rfl ?_
    refine xg_0_6 (idx := 54) 81 C (by decide +kernel) rfl q_564 ?_
    refine xg_7_6 (idx := 267) 84 C (by decide +kernel) rfl q_287 ?_
    refine k_X_enforce (idx := 176) 87 C E (by decide +kernel) rfl q_691 (zb2 rfl rfl) (Nat.le_of_ble_eq_true rfl) hf (fun _ σ4 hf => ?_)
    refine zr_aload_n 0 88 C (by decide +kernel) rfl rfl ?_
    refine xg_0_2 (idx := 26) 91 C (by decide +kernel) rfl q_560 ?_
    refine xg_3_7 (idx := 251) 94 C (by decide +kernel) rfl q_193 ?_
    obtain rfl := Option.some.inj hf
    exact zr_iret C (by decide +kernel) T
  · refine zr_bipush (v := (-3)) (-3) 12 C (by decide +kernel) rfl rfl ?_
    obtain rfl := Option.some.inj hf
    exact zr_iret C (by decide +kernel) T
theorem y_X_back : zY yX10_back cX10_back 1 (some .int) 0 := ⟨q_917, q_72, by decide +kernel, by decide +kernel, by decide +kernel⟩
theorem k_X_back {l : Launch} {d : zD} {F : zF} {h : Nat → Nat} {σ : zS} {lv : List (Option Value)} {pc : Nat} {own : String} {cc : ByteArray} {nL fr lo idx : Nat} {rest : List Value} {β : Type} {kf : Int32 → zS → Option β} {o2 : β} {ad av : Nat → Nat}   (pc' : Nat) (C : zOk d F own cc nL fr lo) (E : zXe d ad av) (hd : decode cc pc = .ok (.invokevirtual idx, 3)) (hp : pc + 3 = pc') (hq : Cond.methodLink own idx yX10_back ∈ zW) (hm : 6 + 1 ≤ fr ∧ 8 + (1 + 11) + 136 ≤ lo) (hr : (rest.map fun v => v.category).sum ≤ 8) (hf : zbd (f_X_back  σ) kf = some o2) (K : ∀ (r : Int32) (σ' : zS), kf r σ' = some o2 → V l d F 0 0 (XW d h σ') lv pc' (.int r :: rest)) : V l d F 0 0 (XW d h σ) lv pc (.ref (h 0) :: rest) := by
  obtain ⟨q, h1, h2⟩ := zbd_some hf
  exact zr_callV y_X_back ⟨q_915, q_916⟩ 0 rfl rfl (As := []) (m_X_back E h1) rfl rfl pc' C hd hp hq hm hr (K _ _ h2)
